import java.util.NoSuchElementException;

/** The proceedings of a parliament of frogs, as ../shared/DOC.md promises them. */
public final class FrogParliament {
    private static final int MAX_FROGS = 12;
    private static final int MAX_PADS = 6;
    private static final int MAX_MOTIONS = 6;
    private static final int MAX_CAPACITY = 4;
    private static final int MAX_WEIGHT = 9;
    private static final int MAX_LOUDNESS = 9;
    private static final int PONDS = 4;
    private static final int ALL_PONDS = 15;
    private static final int MAX_TEXT = 60;
    private static final int MAX_CHANGES = 8;
    private static final int NONE = -1;

    private final Assembly now = new Assembly();
    private final Assembly backup = new Assembly();
    private final Assembly snapshot = new Assembly();
    private boolean hasSnapshot;
    private final History history = new History();
    private final SpeakerQueue queue = new SpeakerQueue();
    private final CommandReader reader = new CommandReader();
    private final StringBuilder text = new StringBuilder();
    private final StringBuilder line = new StringBuilder();
    private int lastErrorPosition = NONE;
    private int lastFailedCommand = NONE;

    public FrogParliament() {
    }

    // ---- frogs and pads

    public int addFrog(int pond, int weight)
            throws IndexOutOfBoundsException, IllegalArgumentException, IllegalStateException {
        refuse(now.refusalToAdmit(pond, weight));
        history.push(now);
        return now.admit(pond, weight);
    }

    public int addPad(int capacity) throws IllegalArgumentException, IllegalStateException {
        refuse(now.refusalToLay(capacity));
        history.push(now);
        return now.lay(capacity);
    }

    public int hop(int frog, int pad) throws IndexOutOfBoundsException, IllegalStateException {
        refuse(now.refusalToSeat(frog, pad));
        history.push(now);
        return now.seat(frog, pad);
    }

    public int dive(int frog) throws IndexOutOfBoundsException, IllegalStateException {
        refuse(now.refusalToUnseat(frog));
        history.push(now);
        return now.unseat(frog);
    }

    public int frogCount() {
        return now.frogs;
    }

    public int pondOf(int frog) throws IndexOutOfBoundsException {
        requireFrog(frog);
        return now.ponds[frog];
    }

    public int weightOf(int frog) throws IndexOutOfBoundsException {
        requireFrog(frog);
        return now.weights[frog];
    }

    public int padOf(int frog) throws IndexOutOfBoundsException, NoSuchElementException {
        requireFrog(frog);
        if (!now.sits(frog)) {
            throw new NoSuchElementException("the frog does not sit on a pad");
        }
        return now.seats[frog];
    }

    public int padCount() {
        return now.pads;
    }

    public int frogsOn(int pad) throws IndexOutOfBoundsException {
        requirePad(pad);
        return now.countOn(pad);
    }

    public int padWeight(int pad) throws IndexOutOfBoundsException {
        requirePad(pad);
        return now.weightOfSet(now.sittersOf(pad));
    }

    public int sittingCount() {
        int count = 0;
        for (int pad = 0; pad < now.pads; pad++) {
            count += now.countOn(pad);
        }
        return count;
    }

    public int sittingCountBySet() {
        return Integer.bitCount(now.sitting);
    }

    // ---- motions and lists

    public int addMotion(int ponds) throws IllegalArgumentException, IllegalStateException {
        refuse(now.refusalToPropose(ponds));
        history.push(now);
        return now.propose(ponds);
    }

    public int motionCount() {
        return now.motionsMade;
    }

    public boolean isEntitled(int motion, int frog) throws IndexOutOfBoundsException {
        refuse(now.refusalOfPair(motion, frog));
        return now.entitles(motion, frog);
    }

    public int signUp(int motion, int frog)
            throws IndexOutOfBoundsException, IllegalArgumentException, IllegalStateException,
            UnsupportedOperationException {
        refuse(now.refusalToEnlist(motion, frog));
        history.push(now);
        return now.enlist(motion, frog);
    }

    public int strike(int motion, int frog)
            throws IndexOutOfBoundsException, NoSuchElementException {
        refuse(now.refusalToUnlist(motion, frog));
        history.push(now);
        return now.unlist(motion, frog);
    }

    public boolean callNext(int motion) throws IndexOutOfBoundsException, NoSuchElementException {
        refuse(now.refusalToCall(motion));
        history.push(now);
        return now.callFirst(motion);
    }

    public int listLength(int motion) throws IndexOutOfBoundsException {
        requireMotion(motion);
        return now.motions[motion].listed;
    }

    public int nextFrog(int motion) throws IndexOutOfBoundsException, NoSuchElementException {
        refuse(now.refusalToCall(motion));
        fillQueue(motion);
        return queue.takeFirst();
    }

    public int nextFrogByScan(int motion)
            throws IndexOutOfBoundsException, NoSuchElementException {
        refuse(now.refusalToCall(motion));
        return now.motions[motion].list[now.firstPlace(motion)];
    }

    public int frogsBefore(int motion, int frog)
            throws IndexOutOfBoundsException, NoSuchElementException {
        refuse(now.refusalToUnlist(motion, frog));
        Motion m = now.motions[motion];
        int place = m.placeOf(frog);
        int before = 0;
        for (int other = 0; other < m.listed; other++) {
            if (now.isCalledBefore(m, other, place)) {
                before++;
            }
        }
        return before;
    }

    public int speeches(int frog) throws IndexOutOfBoundsException {
        requireFrog(frog);
        return now.speechesBy[frog];
    }

    public int speechesOn(int motion) throws IndexOutOfBoundsException {
        requireMotion(motion);
        return now.motions[motion].spoken;
    }

    public int frogAtRank(int rank) throws NoSuchElementException {
        for (int frog = 0; frog < now.frogs; frog++) {
            if (now.countRankedBefore(frog) == rank) {
                return frog;
            }
        }
        throw new NoSuchElementException("there is no such rank");
    }

    // ---- closures

    public boolean supportClosure(int motion, int frog)
            throws IndexOutOfBoundsException, IllegalArgumentException, IllegalStateException,
            UnsupportedOperationException {
        refuse(now.refusalToSupport(motion, frog));
        history.push(now);
        return now.support(motion, frog);
    }

    public boolean isListClosed(int motion) throws IndexOutOfBoundsException {
        requireMotion(motion);
        return now.motions[motion].closed;
    }

    public int closureWeight(int motion) throws IndexOutOfBoundsException {
        requireMotion(motion);
        return now.weightOfSet(now.motions[motion].supporters);
    }

    public int entitledWeight(int motion) throws IndexOutOfBoundsException {
        requireMotion(motion);
        return now.weightOfSet(now.entitledTo(motion));
    }

    // ---- croaks

    public int croak(int motion, int frog, int loudness, boolean isFor)
            throws IndexOutOfBoundsException, IllegalArgumentException, IllegalStateException,
            UnsupportedOperationException {
        refuse(now.refusalToHear(motion, frog, loudness));
        history.push(now);
        return now.hear(motion, frog, loudness, isFor);
    }

    public boolean decide(int motion) throws IndexOutOfBoundsException, IllegalStateException {
        refuse(now.refusalToSettle(motion));
        history.push(now);
        return now.settle(motion);
    }

    public boolean isDecided(int motion) throws IndexOutOfBoundsException {
        requireMotion(motion);
        return now.motions[motion].decided;
    }

    public boolean isAdopted(int motion) throws IndexOutOfBoundsException {
        requireMotion(motion);
        return now.motions[motion].adopted;
    }

    public int croaksFor(int motion) throws IndexOutOfBoundsException {
        requireMotion(motion);
        return now.motions[motion].sumOfSide(true);
    }

    public int croaksForByPonds(int motion) throws IndexOutOfBoundsException {
        requireMotion(motion);
        int sum = 0;
        for (int pond = 0; pond < PONDS; pond++) {
            sum += now.sumForFromPond(motion, pond);
        }
        return sum;
    }

    public int croaksAgainst(int motion) throws IndexOutOfBoundsException {
        requireMotion(motion);
        return now.motions[motion].sumOfSide(false);
    }

    public int strongestFrog(int motion) throws IndexOutOfBoundsException, NoSuchElementException {
        requireMotion(motion);
        Motion m = now.motions[motion];
        if (m.croaks == 0) {
            throw new NoSuchElementException("no frog has croaked on the motion");
        }
        int strongest = 0;
        for (int croak = 1; croak < m.croaks; croak++) {
            if (m.strengths[croak] > m.strengths[strongest]) {
                strongest = croak;
            }
        }
        return m.croakers[strongest];
    }

    public float shareFor(int motion) throws IndexOutOfBoundsException, ArithmeticException {
        requireMotion(motion);
        Motion m = now.motions[motion];
        int sumFor = m.sumOfSide(true);
        int sumOfAll = sumFor + m.sumOfSide(false);
        // every croak has a strength of at least 1, so only no croaks at all sum up to 0
        if (sumOfAll == 0) {
            throw new ArithmeticException("no frog has croaked on the motion");
        }
        return (float) sumFor / (float) sumOfAll;
    }

    // ---- totals

    public int speechTotal() {
        return now.speechesMade;
    }

    public int missedTotal() {
        return now.turnsMissed;
    }

    public int adoptedCount() {
        int count = 0;
        for (int motion = 0; motion < now.motionsMade; motion++) {
            if (now.motions[motion].adopted) {
                count++;
            }
        }
        return count;
    }

    // ---- commands

    public int append(char character) throws IllegalArgumentException, IllegalStateException {
        if (character < 32 || character > 126) {
            throw new IllegalArgumentException("the code of the character is not from 32 to 126");
        }
        if (text.length() >= MAX_TEXT) {
            throw new IllegalStateException("the command text has 60 characters");
        }
        text.append(character);
        return text.length();
    }

    public int run() throws IllegalArgumentException, IllegalStateException {
        boolean understood = reader.read(text);
        text.setLength(0);
        if (!understood) {
            lastErrorPosition = reader.position;
            throw new IllegalArgumentException("the text is not a command text");
        }
        backup.copyFrom(now);
        int done = carryOutCommands();
        if (done < reader.count) {
            now.copyFrom(backup);
            lastFailedCommand = done;
            throw new IllegalStateException("a command fails");
        }
        history.push(backup);
        return done;
    }

    public int errorPosition() throws NoSuchElementException {
        if (lastErrorPosition == NONE) {
            throw new NoSuchElementException("no error position was set");
        }
        return lastErrorPosition;
    }

    public int failedCommand() throws NoSuchElementException {
        if (lastFailedCommand == NONE) {
            throw new NoSuchElementException("no command has failed");
        }
        return lastFailedCommand;
    }

    // ---- line, statistics, undo, snapshot

    public int describeList(int motion) throws IndexOutOfBoundsException {
        requireMotion(motion);
        Motion m = now.motions[motion];
        fillQueue(motion);
        line.setLength(0);
        for (int turn = 0; turn < m.listed; turn++) {
            if (turn > 0) {
                line.append(',');
            }
            int frog = queue.takeFirst();
            line.append(frog);
            if (!now.sits(frog)) {
                line.append('~');
            }
        }
        if (m.closed) {
            line.append('|');
        }
        return line.length();
    }

    public char lineAt(int index) throws IndexOutOfBoundsException {
        if (index < 0 || index >= line.length()) {
            throw new IndexOutOfBoundsException("the line has no such index");
        }
        return line.charAt(index);
    }

    public double meanSittingWeight() throws ArithmeticException {
        int count = Integer.bitCount(now.sitting);
        if (count == 0) {
            throw new ArithmeticException("no frog sits on a pad");
        }
        return (double) now.weightOfSet(now.sitting) / (double) count;
    }

    public boolean isConsistent() {
        if (sittingCount() != sittingCountBySet()) {
            return false;
        }
        int spoken = 0;
        for (int motion = 0; motion < now.motionsMade; motion++) {
            if (listLength(motion) > 0 && nextFrog(motion) != nextFrogByScan(motion)) {
                return false;
            }
            if (croaksFor(motion) != croaksForByPonds(motion)) {
                return false;
            }
            spoken += speechesOn(motion);
        }
        return spoken == speechTotal();
    }

    public int undo() throws IllegalStateException {
        if (history.size == 0) {
            throw new IllegalStateException("there is no change to undo");
        }
        history.pop(now);
        return history.size;
    }

    public int save() {
        snapshot.copyFrom(now);
        hasSnapshot = true;
        return now.motionsMade;
    }

    public int restore() throws IllegalStateException {
        if (!hasSnapshot) {
            throw new IllegalStateException("there is no snapshot");
        }
        now.copyFrom(snapshot);
        history.forget();
        return now.motionsMade;
    }

    // ---- private helpers

    private void requireFrog(int frog) {
        refuse(now.hasFrog(frog) ? Refusal.NOTHING : Refusal.NO_SUCH_FROG);
    }

    private void requirePad(int pad) {
        refuse(now.hasPad(pad) ? Refusal.NOTHING : Refusal.NO_SUCH_PAD);
    }

    private void requireMotion(int motion) {
        refuse(now.hasMotion(motion) ? Refusal.NOTHING : Refusal.NO_SUCH_MOTION);
    }

    private void fillQueue(int motion) {
        Motion m = now.motions[motion];
        queue.clear();
        for (int place = 0; place < m.listed; place++) {
            int frog = m.list[place];
            queue.put(now.speechesBy[frog], place, frog);
        }
    }

    /** Carries out the commands up to the first that is refused, and returns how many it did. */
    private int carryOutCommands() {
        for (int index = 0; index < reader.count; index++) {
            Command command = reader.commands[index];
            if (now.refusalOf(command) != Refusal.NOTHING) {
                return index;
            }
            now.carryOut(command);
        }
        return reader.count;
    }

    private static void refuse(Refusal refusal) {
        switch (refusal) {
            case NO_SUCH_POND:
                throw new IndexOutOfBoundsException("there is no such pond");
            case NO_SUCH_FROG:
                throw new IndexOutOfBoundsException("there is no such frog");
            case NO_SUCH_PAD:
                throw new IndexOutOfBoundsException("there is no such pad");
            case NO_SUCH_MOTION:
                throw new IndexOutOfBoundsException("there is no such motion");
            case WRONG_WEIGHT:
                throw new IllegalArgumentException("the weight is not from 1 to 9");
            case WRONG_CAPACITY:
                throw new IllegalArgumentException("the capacity is not from 1 to 4");
            case WRONG_MASK:
                throw new IllegalArgumentException("the mask is not from 1 to 15");
            case WRONG_LOUDNESS:
                throw new IllegalArgumentException("the loudness is not from 1 to 9");
            case NOT_ENTITLED:
                throw new IllegalArgumentException("the frog is not entitled to the motion");
            case TOO_MANY:
                throw new IllegalStateException("there are as many as there can be");
            case SITS_THERE:
                throw new IllegalStateException("the frog sits on this pad");
            case PAD_FULL:
                throw new IllegalStateException("the pad is full");
            case IN_WATER:
                throw new IllegalStateException("the frog does not sit on a pad");
            case DECIDED:
                throw new IllegalStateException("the motion is decided");
            case LIST_CLOSED:
                throw new IllegalStateException("the list of the motion is closed");
            case LIST_OPEN:
                throw new IllegalStateException("the list of the motion is not closed");
            case LIST_IN_USE:
                throw new IllegalStateException("a frog is on the list");
            default:
                refuseRarer(refusal);
        }
    }

    private static void refuseRarer(Refusal refusal) {
        switch (refusal) {
            case ON_LIST:
                throw new UnsupportedOperationException("the frog is on the list");
            case NO_SEAT:
                throw new UnsupportedOperationException("the frog does not sit on a pad");
            case HAS_CROAKED:
                throw new UnsupportedOperationException("the frog has croaked on the motion");
            case NOT_ON_LIST:
                throw new NoSuchElementException("the frog is not on the list");
            case LIST_EMPTY:
                throw new NoSuchElementException("no frog is on the list");
            default:
                return;
        }
    }

    /** Why a call can't be carried out; run() asks for it too, without an exception. */
    private enum Refusal {
        NOTHING,
        NO_SUCH_POND, NO_SUCH_FROG, NO_SUCH_PAD, NO_SUCH_MOTION,
        WRONG_WEIGHT, WRONG_CAPACITY, WRONG_MASK, WRONG_LOUDNESS, NOT_ENTITLED,
        TOO_MANY, SITS_THERE, PAD_FULL, IN_WATER,
        DECIDED, LIST_CLOSED, LIST_OPEN, LIST_IN_USE,
        ON_LIST, NO_SEAT, HAS_CROAKED,
        NOT_ON_LIST, LIST_EMPTY
    }

    /**
     * Everything that changes can change. A change comes as two methods: the one tells why it is
     * refused, the other makes it and is called only if nothing refuses it.
     */
    private static final class Assembly {
        private int frogs;
        private final int[] ponds = new int[MAX_FROGS];
        private final int[] weights = new int[MAX_FROGS];
        private final int[] seats = new int[MAX_FROGS];
        private final int[] speechesBy = new int[MAX_FROGS];
        private int sitting;
        private int pads;
        private final int[] capacities = new int[MAX_PADS];
        private int motionsMade;
        private final Motion[] motions = new Motion[MAX_MOTIONS];
        private int speechesMade;
        private int turnsMissed;

        private Assembly() {
            for (int motion = 0; motion < MAX_MOTIONS; motion++) {
                motions[motion] = new Motion();
            }
        }

        private void copyFrom(Assembly other) {
            frogs = other.frogs;
            System.arraycopy(other.ponds, 0, ponds, 0, MAX_FROGS);
            System.arraycopy(other.weights, 0, weights, 0, MAX_FROGS);
            System.arraycopy(other.seats, 0, seats, 0, MAX_FROGS);
            System.arraycopy(other.speechesBy, 0, speechesBy, 0, MAX_FROGS);
            sitting = other.sitting;
            pads = other.pads;
            System.arraycopy(other.capacities, 0, capacities, 0, MAX_PADS);
            motionsMade = other.motionsMade;
            for (int motion = 0; motion < MAX_MOTIONS; motion++) {
                motions[motion].copyFrom(other.motions[motion]);
            }
            speechesMade = other.speechesMade;
            turnsMissed = other.turnsMissed;
        }

        private boolean hasFrog(int frog) {
            return frog >= 0 && frog < frogs;
        }

        private boolean hasPad(int pad) {
            return pad >= 0 && pad < pads;
        }

        private boolean hasMotion(int motion) {
            return motion >= 0 && motion < motionsMade;
        }

        private Refusal refusalOfPair(int motion, int frog) {
            if (!hasMotion(motion)) {
                return Refusal.NO_SUCH_MOTION;
            }
            return hasFrog(frog) ? Refusal.NOTHING : Refusal.NO_SUCH_FROG;
        }

        private Refusal refusalToAdmit(int pond, int weight) {
            if (pond < 0 || pond >= PONDS) {
                return Refusal.NO_SUCH_POND;
            }
            if (weight < 1 || weight > MAX_WEIGHT) {
                return Refusal.WRONG_WEIGHT;
            }
            return frogs < MAX_FROGS ? Refusal.NOTHING : Refusal.TOO_MANY;
        }

        private int admit(int pond, int weight) {
            int frog = frogs;
            ponds[frog] = pond;
            weights[frog] = weight;
            seats[frog] = NONE;
            frogs++;
            return frog;
        }

        private Refusal refusalToLay(int capacity) {
            if (capacity < 1 || capacity > MAX_CAPACITY) {
                return Refusal.WRONG_CAPACITY;
            }
            return pads < MAX_PADS ? Refusal.NOTHING : Refusal.TOO_MANY;
        }

        private int lay(int capacity) {
            int pad = pads;
            capacities[pad] = capacity;
            pads++;
            return pad;
        }

        private Refusal refusalToSeat(int frog, int pad) {
            if (!hasFrog(frog)) {
                return Refusal.NO_SUCH_FROG;
            }
            if (!hasPad(pad)) {
                return Refusal.NO_SUCH_PAD;
            }
            if (seats[frog] == pad) {
                return Refusal.SITS_THERE;
            }
            return countOn(pad) < capacities[pad] ? Refusal.NOTHING : Refusal.PAD_FULL;
        }

        private int seat(int frog, int pad) {
            seats[frog] = pad;
            sitting |= 1 << frog;
            return countOn(pad);
        }

        private Refusal refusalToUnseat(int frog) {
            if (!hasFrog(frog)) {
                return Refusal.NO_SUCH_FROG;
            }
            return sits(frog) ? Refusal.NOTHING : Refusal.IN_WATER;
        }

        private int unseat(int frog) {
            int pad = seats[frog];
            seats[frog] = NONE;
            sitting &= ~(1 << frog);
            return pad;
        }

        private boolean sits(int frog) {
            return (sitting >> frog & 1) != 0;
        }

        private int sittersOf(int pad) {
            int set = 0;
            for (int frog = 0; frog < frogs; frog++) {
                if (seats[frog] == pad) {
                    set |= 1 << frog;
                }
            }
            return set;
        }

        private int countOn(int pad) {
            return Integer.bitCount(sittersOf(pad));
        }

        private int weightOfSet(int set) {
            int sum = 0;
            for (int frog = 0; frog < frogs; frog++) {
                if ((set >> frog & 1) != 0) {
                    sum += weights[frog];
                }
            }
            return sum;
        }

        private Refusal refusalToPropose(int mask) {
            if (mask < 1 || mask > ALL_PONDS) {
                return Refusal.WRONG_MASK;
            }
            return motionsMade < MAX_MOTIONS ? Refusal.NOTHING : Refusal.TOO_MANY;
        }

        private int propose(int mask) {
            int motion = motionsMade;
            // all the rest is as in a new object: undo and restore bring back the motions that
            // were not made yet, too
            motions[motion].mask = mask;
            motionsMade++;
            return motion;
        }

        private boolean entitles(int motion, int frog) {
            return (motions[motion].mask >> ponds[frog] & 1) != 0;
        }

        private int entitledTo(int motion) {
            int set = 0;
            for (int frog = 0; frog < frogs; frog++) {
                if (entitles(motion, frog)) {
                    set |= 1 << frog;
                }
            }
            return set;
        }

        /** What signUp and supportClosure ask alike. */
        private Refusal refusalWhileListOpen(int motion, int frog) {
            Refusal refusal = refusalOfPair(motion, frog);
            if (refusal != Refusal.NOTHING) {
                return refusal;
            }
            if (!entitles(motion, frog)) {
                return Refusal.NOT_ENTITLED;
            }
            if (motions[motion].decided) {
                return Refusal.DECIDED;
            }
            return motions[motion].closed ? Refusal.LIST_CLOSED : Refusal.NOTHING;
        }

        private Refusal refusalToEnlist(int motion, int frog) {
            Refusal refusal = refusalWhileListOpen(motion, frog);
            if (refusal != Refusal.NOTHING) {
                return refusal;
            }
            return motions[motion].placeOf(frog) == NONE ? Refusal.NOTHING : Refusal.ON_LIST;
        }

        private int enlist(int motion, int frog) {
            Motion m = motions[motion];
            m.addToList(frog);
            return m.listed;
        }

        private Refusal refusalToUnlist(int motion, int frog) {
            Refusal refusal = refusalOfPair(motion, frog);
            if (refusal != Refusal.NOTHING) {
                return refusal;
            }
            return motions[motion].placeOf(frog) == NONE ? Refusal.NOT_ON_LIST : Refusal.NOTHING;
        }

        private int unlist(int motion, int frog) {
            Motion m = motions[motion];
            m.clearPlace(m.placeOf(frog));
            return m.listed;
        }

        private Refusal refusalToCall(int motion) {
            if (!hasMotion(motion)) {
                return Refusal.NO_SUCH_MOTION;
            }
            return motions[motion].listed > 0 ? Refusal.NOTHING : Refusal.LIST_EMPTY;
        }

        private boolean callFirst(int motion) {
            Motion m = motions[motion];
            int place = firstPlace(motion);
            int frog = m.list[place];
            m.clearPlace(place);
            if (!sits(frog)) {
                turnsMissed++;
                return false;
            }
            speechesBy[frog]++;
            m.spoken++;
            speechesMade++;
            return true;
        }

        private int firstPlace(int motion) {
            Motion m = motions[motion];
            int first = 0;
            for (int place = 1; place < m.listed; place++) {
                if (isCalledBefore(m, place, first)) {
                    first = place;
                }
            }
            return first;
        }

        private boolean isCalledBefore(Motion m, int place, int other) {
            int speeches = speechesBy[m.list[place]];
            int otherSpeeches = speechesBy[m.list[other]];
            return speeches != otherSpeeches ? speeches < otherSpeeches : place < other;
        }

        private int countRankedBefore(int frog) {
            int count = 0;
            for (int other = 0; other < frogs; other++) {
                if (isRankedBefore(other, frog)) {
                    count++;
                }
            }
            return count;
        }

        private boolean isRankedBefore(int frog, int other) {
            if (speechesBy[frog] != speechesBy[other]) {
                return speechesBy[frog] > speechesBy[other];
            }
            if (weights[frog] != weights[other]) {
                return weights[frog] > weights[other];
            }
            return frog < other;
        }

        private Refusal refusalToSupport(int motion, int frog) {
            Refusal refusal = refusalWhileListOpen(motion, frog);
            if (refusal != Refusal.NOTHING) {
                return refusal;
            }
            return sits(frog) ? Refusal.NOTHING : Refusal.NO_SEAT;
        }

        private boolean support(int motion, int frog) {
            Motion m = motions[motion];
            m.supporters |= 1 << frog;
            m.closed = 2 * weightOfSet(m.supporters) > weightOfSet(entitledTo(motion));
            return m.closed;
        }

        private Refusal refusalToHear(int motion, int frog, int loudness) {
            Refusal refusal = refusalOfPair(motion, frog);
            if (refusal != Refusal.NOTHING) {
                return refusal;
            }
            if (loudness < 1 || loudness > MAX_LOUDNESS) {
                return Refusal.WRONG_LOUDNESS;
            }
            if (!entitles(motion, frog)) {
                return Refusal.NOT_ENTITLED;
            }
            refusal = refusalToSettle(motion);
            if (refusal != Refusal.NOTHING) {
                return refusal;
            }
            if (!sits(frog)) {
                return Refusal.NO_SEAT;
            }
            return motions[motion].hasCroakOf(frog) ? Refusal.HAS_CROAKED : Refusal.NOTHING;
        }

        private int hear(int motion, int frog, int loudness, boolean isFor) {
            Motion m = motions[motion];
            m.addCroak(frog, loudness * weights[frog], isFor);
            return m.sumOfSide(isFor);
        }

        private int sumForFromPond(int motion, int pond) {
            Motion m = motions[motion];
            int sum = 0;
            for (int croak = 0; croak < m.croaks; croak++) {
                if (m.isFor(croak) && ponds[m.croakers[croak]] == pond) {
                    sum += m.strengths[croak];
                }
            }
            return sum;
        }

        private Refusal refusalToSettle(int motion) {
            if (!hasMotion(motion)) {
                return Refusal.NO_SUCH_MOTION;
            }
            Motion m = motions[motion];
            if (m.decided) {
                return Refusal.DECIDED;
            }
            if (!m.closed) {
                return Refusal.LIST_OPEN;
            }
            return m.listed > 0 ? Refusal.LIST_IN_USE : Refusal.NOTHING;
        }

        private boolean settle(int motion) {
            Motion m = motions[motion];
            m.decided = true;
            m.adopted = m.sumOfSide(true) > m.sumOfSide(false);
            return m.adopted;
        }

        private Refusal refusalOf(Command command) {
            int[] n = command.numbers;
            switch (command.action) {
                case FROG:
                    return refusalToAdmit(n[0], n[1]);
                case PAD:
                    return refusalToLay(n[0]);
                case HOP:
                    return refusalToSeat(n[0], n[1]);
                case DIVE:
                    return refusalToUnseat(n[0]);
                case MOTION:
                    return refusalToPropose(n[0]);
                case LIST:
                    return refusalToEnlist(n[0], n[1]);
                case STRIKE:
                    return refusalToUnlist(n[0], n[1]);
                case CALL:
                    return refusalToCall(n[0]);
                case END:
                    return refusalToSupport(n[0], n[1]);
                case CROAK:
                    return refusalToHear(n[0], n[1], n[3]);
                default:
                    return refusalToSettle(n[0]);
            }
        }

        private void carryOut(Command command) {
            int[] n = command.numbers;
            switch (command.action) {
                case FROG:
                    admit(n[0], n[1]);
                    break;
                case PAD:
                    lay(n[0]);
                    break;
                case HOP:
                    seat(n[0], n[1]);
                    break;
                case DIVE:
                    unseat(n[0]);
                    break;
                case MOTION:
                    propose(n[0]);
                    break;
                case LIST:
                    enlist(n[0], n[1]);
                    break;
                case STRIKE:
                    unlist(n[0], n[1]);
                    break;
                case CALL:
                    callFirst(n[0]);
                    break;
                case END:
                    support(n[0], n[1]);
                    break;
                case CROAK:
                    hear(n[0], n[1], n[3], n[2] != 0);
                    break;
                default:
                    settle(n[0]);
            }
        }
    }

    /** A motion with its list (in the order of signing up) and croaks (in the order of croaking). */
    private static final class Motion {
        private int mask;
        private final int[] list = new int[MAX_FROGS];
        private int listed;
        private boolean closed;
        private int supporters;
        private final int[] croakers = new int[MAX_FROGS];
        private final int[] strengths = new int[MAX_FROGS];
        private int croaks;
        private int inFavour;
        private boolean decided;
        private boolean adopted;
        private int spoken;

        private void copyFrom(Motion other) {
            mask = other.mask;
            System.arraycopy(other.list, 0, list, 0, MAX_FROGS);
            listed = other.listed;
            closed = other.closed;
            supporters = other.supporters;
            System.arraycopy(other.croakers, 0, croakers, 0, MAX_FROGS);
            System.arraycopy(other.strengths, 0, strengths, 0, MAX_FROGS);
            croaks = other.croaks;
            inFavour = other.inFavour;
            decided = other.decided;
            adopted = other.adopted;
            spoken = other.spoken;
        }

        private int placeOf(int frog) {
            for (int place = 0; place < listed; place++) {
                if (list[place] == frog) {
                    return place;
                }
            }
            return NONE;
        }

        private void addToList(int frog) {
            if (listed < MAX_FROGS) {
                list[listed] = frog;
                listed++;
            }
        }

        private void clearPlace(int place) {
            if (place < 0 || place >= listed) {
                return;
            }
            for (int later = place + 1; later < listed; later++) {
                list[later - 1] = list[later];
            }
            listed--;
        }

        private void addCroak(int frog, int strength, boolean side) {
            if (croaks < MAX_FROGS) {
                croakers[croaks] = frog;
                strengths[croaks] = strength;
                croaks++;
                inFavour |= side ? 1 << frog : 0;
            }
        }

        private boolean hasCroakOf(int frog) {
            for (int croak = 0; croak < croaks; croak++) {
                if (croakers[croak] == frog) {
                    return true;
                }
            }
            return false;
        }

        private boolean isFor(int croak) {
            return (inFavour >> croakers[croak] & 1) != 0;
        }

        private int sumOfSide(boolean side) {
            int sum = 0;
            for (int croak = 0; croak < croaks; croak++) {
                if (isFor(croak) == side) {
                    sum += strengths[croak];
                }
            }
            return sum;
        }
    }

    /** The states before the latest changes, in a ring, so that no change makes a new state. */
    private static final class History {
        private final Assembly[] states = new Assembly[MAX_CHANGES];
        private int next;
        private int size;

        private History() {
            for (int slot = 0; slot < MAX_CHANGES; slot++) {
                states[slot] = new Assembly();
            }
        }

        private void push(Assembly state) {
            states[next].copyFrom(state);
            next = (next + 1) % MAX_CHANGES;
            if (size < MAX_CHANGES) {
                size++;
            }
        }

        private void pop(Assembly target) {
            next = (next + MAX_CHANGES - 1) % MAX_CHANGES;
            size--;
            target.copyFrom(states[next]);
        }

        private void forget() {
            size = 0;
        }
    }

    /**
     * A priority queue of the frogs on one list, as a binary heap. A key holds the speeches, then
     * the place on the list, then the frog, so that the least key is that of the next frog.
     */
    private static final class SpeakerQueue {
        private static final int BITS = 4;
        private static final int FROG_MASK = 15;

        private final int[] keys = new int[MAX_FROGS];
        private int size;

        private void clear() {
            size = 0;
        }

        private void put(int speeches, int place, int frog) {
            if (size >= MAX_FROGS) {
                return;
            }
            int key = (speeches << BITS | place) << BITS | frog;
            int at = size;
            size++;
            while (at > 0 && keys[(at - 1) / 2] > key) {
                keys[at] = keys[(at - 1) / 2];
                at = (at - 1) / 2;
            }
            keys[at] = key;
        }

        private int takeFirst() {
            if (size <= 0) {
                return NONE;
            }
            int first = keys[0];
            size--;
            int key = keys[size];
            int at = 0;
            int child = lesserChild(at);
            while (child < size && keys[child] < key) {
                keys[at] = keys[child];
                at = child;
                child = lesserChild(at);
            }
            keys[at] = key;
            return first & FROG_MASK;
        }

        private int lesserChild(int at) {
            int left = 2 * at + 1;
            int right = left + 1;
            return right < size && keys[right] < keys[left] ? right : left;
        }
    }

    /**
     * The commands, each with its form: D stands for a digit, N for a number, S for a sign, and
     * every other character for itself.
     */
    private enum Action {
        FROG("frog DD"),
        PAD("pad D"),
        HOP("hop N D"),
        DIVE("dive N"),
        MOTION("motion N"),
        LIST("list D N"),
        STRIKE("strike D N"),
        CALL("call D"),
        END("end D N"),
        CROAK("croak D NSD"),
        DECIDE("decide D");

        private final String form;

        Action(String form) {
            this.form = form;
        }
    }

    /** One command of a text, with its numbers in their order; a sign is 1 for + and 0 for -. */
    private static final class Command {
        private static final int MAX_NUMBERS = 4;

        private Action action = Action.FROG;
        private final int[] numbers = new int[MAX_NUMBERS];
        private int count;

        private void addNumber(int number) {
            if (count < MAX_NUMBERS) {
                numbers[count] = number;
                count++;
            }
        }
    }

    /** Reads a command text into rows that are used again by every reading. */
    private static final class CommandReader {
        // the shortest command and its semicolon take 6 characters; one row more is for the
        // command that is missing behind a semicolon at the end of a full text
        private static final int MAX_COMMANDS = MAX_TEXT / 6 + 1;
        private static final char END_OF_TEXT = (char) 0;
        private static final Action[] ACTIONS = Action.values();

        private final Command[] commands = new Command[MAX_COMMANDS];
        private int count;
        private int position;

        private CommandReader() {
            for (int row = 0; row < MAX_COMMANDS; row++) {
                commands[row] = new Command();
            }
        }

        /** Tells whether it is a command text; if it is not, position is the error position. */
        private boolean read(StringBuilder text) {
            count = 0;
            position = 0;
            while (count < MAX_COMMANDS) {
                if (!readCommand(text, commands[count])) {
                    return false;
                }
                count++;
                if (position == text.length()) {
                    return true;
                }
                if (charAtPosition(text) != ';') {
                    return false;
                }
                position++;
            }
            return false;
        }

        private boolean readCommand(StringBuilder text, Command command) {
            int start = position;
            int farthest = start;
            for (int index = 0; index < ACTIONS.length; index++) {
                position = start;
                command.action = ACTIONS[index];
                command.count = 0;
                if (readForm(text, command)) {
                    return true;
                }
                farthest = Math.max(farthest, position);
            }
            position = farthest;
            return false;
        }

        private boolean readForm(StringBuilder text, Command command) {
            String form = command.action.form;
            boolean fits = true;
            for (int index = 0; fits && index < form.length(); index++) {
                char part = form.charAt(index);
                if (part == 'D') {
                    fits = readNumber(text, 1, command);
                } else if (part == 'N') {
                    fits = readNumber(text, 2, command);
                } else if (part == 'S') {
                    fits = readSign(text, command);
                } else {
                    fits = readCharacter(text, part);
                }
            }
            return fits;
        }

        private boolean readNumber(StringBuilder text, int maxDigits, Command command) {
            int digits = 0;
            int number = 0;
            while (digits < maxDigits && isDigit(charAtPosition(text))) {
                number = 10 * number + (charAtPosition(text) - '0');
                position++;
                digits++;
            }
            command.addNumber(number);
            return digits > 0;
        }

        private boolean readSign(StringBuilder text, Command command) {
            boolean isPlus = charAtPosition(text) == '+';
            command.addNumber(isPlus ? 1 : 0);
            return readCharacter(text, isPlus ? '+' : '-');
        }

        private boolean readCharacter(StringBuilder text, char wanted) {
            if (charAtPosition(text) != wanted) {
                return false;
            }
            position++;
            return true;
        }

        private char charAtPosition(StringBuilder text) {
            return position < text.length() ? text.charAt(position) : END_OF_TEXT;
        }

        private static boolean isDigit(char character) {
            return character >= '0' && character <= '9';
        }
    }
}
