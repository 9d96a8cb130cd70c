/** The sentences on frogs and pads: terms, promises 1 to 14, and 50. */
final class FrogSentences {
    private static final int MAX_CAPACITY = 4;

    private FrogSentences() {
    }

    static void test(Sentences document) {
        terms(document);
        additions(document);
        moves(document);
        frogQueries(document);
        padQueries(document);
        sitting(document);
    }

    private static void terms(Sentences document) {
        document.holds(0, "There are at most 12 frogs, numbered from 0.",
                FrogSentences::twelveFrogs);
        document.holds(0, "A frog belongs to one of the ponds 0 to 3 and has a weight from 1 to 9.",
                FrogSentences::pondAndWeight);
        document.holds(0, "It sits on a pad or is in the water.", FrogSentences::padOrWater);
        document.holds(0, "There are at most 6 pads, numbered from 0.", FrogSentences::sixPads);
        document.holds(0,
                "A pad has a capacity from 1 to 4, and is full if as many frogs sit on it.",
                FrogSentences::fullPads);
        document.holds(1, "Creates a parliament without frogs, pads and motions.",
                FrogSentences::newObject);
    }

    private static void additions(Sentences document) {
        document.holds(2, "Adds a frog, which does not sit on a pad.", FrogSentences::newFrogs);
        document.holds(2, "- `pond`: the pond of the frog, 0 to 3", FrogSentences::pondParameter);
        document.holds(2, "- `weight`: the weight of the frog, 1 to 9",
                FrogSentences::weightParameter);
        document.holds(2, "Throws `IndexOutOfBoundsException` if there is no such pond",
                FrogSentences::noSuchPond);
        document.holds(2, "Throws `IllegalArgumentException` if the weight is not from 1 to 9",
                FrogSentences::wrongWeight);
        document.holds(2, "Throws `IllegalStateException` if there are 12 frogs",
                FrogSentences::frogTooMany);
        document.holds(3, "Adds an empty pad.", FrogSentences::newPads);
        document.holds(3, "- `capacity`: the number of frogs that can sit on it, 1 to 4",
                FrogSentences::capacityParameter);
        document.holds(3, "Throws `IllegalArgumentException` if the capacity is not from 1 to 4",
                FrogSentences::wrongCapacity);
        document.holds(3, "Throws `IllegalStateException` if there are 6 pads",
                FrogSentences::padTooMany);
    }

    private static void moves(Sentences document) {
        document.holds(4, "Lets a frog hop on a pad, from another pad or from the water.",
                FrogSentences::hopFromPadOrWater);
        document.holds(4, "Returns the number of frogs on the pad after the call.",
                FrogSentences::hopCounts);
        document.holds(4, "Throws `IndexOutOfBoundsException` if there is no such frog or pad",
                FrogSentences::hopOfNone);
        document.holds(4,
                "Throws `IllegalStateException` if the frog sits on this pad, or the pad is full",
                FrogSentences::hopRefused);
        document.holds(5, "Lets a frog dive from its pad into the water.", FrogSentences::dive);
        document.holds(5, "Throws `IndexOutOfBoundsException` if there is no such frog",
                () -> Parliaments.onlyFrogsThatThereAre("dive", (p, frog) -> p.dive(frog)));
        document.holds(5, "Throws `IllegalStateException` if the frog does not sit on a pad",
                FrogSentences::diveFromWater);
    }

    private static void frogQueries(Sentences document) {
        document.holds(6, "Returns the number of frogs.", FrogSentences::frogCount);
        document.holds(7, "Throws `IndexOutOfBoundsException` if there is no such frog",
                () -> Parliaments.onlyFrogsThatThereAre("pondOf", (p, frog) -> p.pondOf(frog)));
        document.holds(8, "Throws `IndexOutOfBoundsException` if there is no such frog",
                () -> Parliaments.onlyFrogsThatThereAre("weightOf",
                        (p, frog) -> p.weightOf(frog)));
        document.holds(9, "Throws `IndexOutOfBoundsException` if there is no such frog",
                () -> Parliaments.onlyFrogsThatThereAre("padOf", (p, frog) -> p.padOf(frog)));
        document.holds(9, "Throws `NoSuchElementException` if the frog does not sit on a pad",
                FrogSentences::padOfInWater);
    }

    private static void padQueries(Sentences document) {
        document.holds(10, "Returns the number of pads.", FrogSentences::padCount);
        document.holds(11, "Returns the number of frogs on a pad.", FrogSentences::frogsOn);
        document.holds(11, "Throws `IndexOutOfBoundsException` if there is no such pad",
                () -> Parliaments.onlyPadsThatThereAre("frogsOn", (p, pad) -> p.frogsOn(pad)));
        document.holds(12, "Returns the sum of the weights of the frogs on a pad.",
                FrogSentences::padWeight);
        document.holds(12, "Throws `IndexOutOfBoundsException` if there is no such pad",
                () -> Parliaments.onlyPadsThatThereAre("padWeight",
                        (p, pad) -> p.padWeight(pad)));
    }

    private static void sitting(Sentences document) {
        document.holds(13, "Returns the number of frogs that sit on pads, counted pad by pad.",
                () -> countsOfSitting((p, unused) -> p.sittingCount()));
        document.holds(14, "Returns the same number as sittingCount(), counted from the set of all"
                + " sitting frogs.", () -> countsOfSitting((p, unused) -> p.sittingCountBySet()));
        document.holds(50, "Returns the mean weight of the frogs that sit on pads: the sum of their"
                + " weights divided by their number, both converted to double.",
                FrogSentences::meanSittingWeight);
        document.holds(50, "Throws `ArithmeticException` if no frog sits on a pad",
                FrogSentences::meanOfNone);
    }

    private static void twelveFrogs() {
        FrogParliament p = new FrogParliament();
        for (int frog = 0; frog < 12; frog++) {
            Check.equal("addFrog", frog, Observed.answer(() -> p.addFrog(0, 1)));
            Check.equal("frogCount", frog + 1, p.frogCount());
        }
        Check.refused(p, "addFrog as the 13th", Parliaments.STATE, () -> p.addFrog(0, 1));
        Check.equal("frogCount", 12, p.frogCount());
        p.undo();
        Check.equal("addFrog after undo", 11, p.addFrog(3, 9));
        Check.refused(p, "addFrog after undo", Parliaments.STATE, () -> p.addFrog(0, 1));
    }

    private static void pondAndWeight() {
        for (int pond = -1; pond <= 4; pond++) {
            for (int weight = -1; weight <= 11; weight++) {
                FrogParliament p = new FrogParliament();
                boolean isDue = pond >= 0 && pond <= 3 && weight >= 1 && weight <= 9;
                int[] numbers = {pond, weight};
                Object answer = Observed.answer(() -> p.addFrog(numbers[0], numbers[1]));
                Check.equal("addFrog(" + pond + ", " + weight + ") is done", isDue,
                        answer instanceof Integer);
                Check.equal("frogCount", isDue ? 1 : 0, p.frogCount());
                if (isDue) {
                    Check.equal("pondOf", pond, p.pondOf(0));
                    Check.equal("weightOf", weight, p.weightOf(0));
                }
            }
        }
    }

    private static void padOrWater() {
        FrogParliament p = Parliaments.with(1, 6, 0);
        for (int pad = 0; pad < 6; pad++) {
            p.hop(0, pad);
            for (int other = 0; other < 6; other++) {
                Check.equal("frogsOn(" + other + ") after hop(0, " + pad + ")",
                        other == pad ? 1 : 0, p.frogsOn(other));
            }
            Check.equal("padOf", pad, p.padOf(0));
        }
        p.dive(0);
        for (int pad = 0; pad < 6; pad++) {
            Check.equal("frogsOn after a dive", 0, p.frogsOn(pad));
        }
        Check.refused(p, "padOf after a dive", Parliaments.ELEMENT, () -> p.padOf(0));
    }

    private static void sixPads() {
        FrogParliament p = new FrogParliament();
        for (int pad = 0; pad < 6; pad++) {
            Check.equal("addPad", pad, Observed.answer(() -> p.addPad(1)));
            Check.equal("padCount", pad + 1, p.padCount());
        }
        Check.refused(p, "addPad as the 7th", Parliaments.STATE, () -> p.addPad(1));
        Check.equal("padCount", 6, p.padCount());
        p.undo();
        Check.equal("addPad after undo", 5, p.addPad(4));
        Check.refused(p, "addPad after undo", Parliaments.STATE, () -> p.addPad(1));
    }

    private static void fullPads() {
        for (int capacity = 1; capacity <= MAX_CAPACITY; capacity++) {
            FrogParliament p = Parliaments.with(6, 0, 0);
            p.addPad(capacity);
            p.addPad(1);
            for (int frog = 0; frog < capacity; frog++) {
                int f = frog;
                Check.equal("hop on a pad that is not full", frog + 1,
                        Observed.answer(() -> p.hop(f, 0)));
            }
            Check.refused(p, "hop on a pad of " + capacity, Parliaments.STATE,
                    () -> p.hop(5, 0));
            p.dive(0);
            Check.equal("hop where a frog dived", capacity, p.hop(5, 0));
            Check.refused(p, "hop on the full pad", Parliaments.STATE, () -> p.hop(0, 0));
            p.hop(5, 1);
            Check.equal("hop where a frog hopped off", capacity, p.hop(0, 0));
            Check.refused(p, "hop back", Parliaments.STATE, () -> p.hop(5, 0));
        }
    }

    private static void newObject() {
        FrogParliament p = new FrogParliament();
        Check.equal("frogCount", 0, p.frogCount());
        Check.equal("padCount", 0, p.padCount());
        Check.equal("motionCount", 0, p.motionCount());
        Check.refused(p, "pondOf(0)", Parliaments.INDEX, () -> p.pondOf(0));
        Check.refused(p, "frogsOn(0)", Parliaments.INDEX, () -> p.frogsOn(0));
        Check.refused(p, "listLength(0)", Parliaments.INDEX, () -> p.listLength(0));
        FrogParliament full = Parliaments.with(12, 6, 6);
        FrogParliament next = new FrogParliament();
        Check.equal("frogCount beside another object", 0, next.frogCount());
        Check.equal("padCount beside another object", 0, next.padCount());
        Check.equal("motionCount beside another object", 0, next.motionCount());
        Check.equal("frogCount of the other object", 12, full.frogCount());
    }

    private static void newFrogs() {
        FrogParliament p = Parliaments.with(0, 6, 0);
        for (int frog = 0; frog < 12; frog++) {
            p.addFrog(0, 1);
            for (int f = 0; f <= frog; f++) {
                int number = f;
                Check.refused(p, "padOf(" + f + ")", Parliaments.ELEMENT, () -> p.padOf(number));
            }
            Check.equal("sittingCount", 0, p.sittingCount());
            Check.equal("sittingCountBySet", 0, p.sittingCountBySet());
            Check.equal("frogsOn(0)", 0, p.frogsOn(0));
        }
        FrogParliament again = Parliaments.with(0, 1, 0);
        again.addFrog(0, 1);
        again.hop(0, 0);
        again.undo();
        again.undo();
        again.addFrog(0, 1);
        Check.refused(again, "padOf of a number used again", Parliaments.ELEMENT,
                () -> again.padOf(0));
        Check.equal("sittingCountBySet of a number used again", 0, again.sittingCountBySet());
    }

    private static void pondParameter() {
        FrogParliament p = new FrogParliament();
        for (int pond = 0; pond <= 3; pond++) {
            int number = pond;
            Check.equal("addFrog(" + pond + ", 5)", pond,
                    Observed.answer(() -> p.addFrog(number, 5)));
            Check.equal("pondOf", pond, p.pondOf(pond));
        }
    }

    private static void weightParameter() {
        FrogParliament p = new FrogParliament();
        for (int weight = 1; weight <= 9; weight++) {
            int number = weight;
            Check.equal("addFrog(2, " + weight + ")", weight - 1,
                    Observed.answer(() -> p.addFrog(2, number)));
            Check.equal("weightOf", weight, p.weightOf(weight - 1));
        }
    }

    private static void noSuchPond() {
        FrogParliament p = new FrogParliament();
        Check.refused(p, "addFrog(-1, 5)", Parliaments.INDEX, () -> p.addFrog(-1, 5));
        Check.refused(p, "addFrog(4, 5)", Parliaments.INDEX, () -> p.addFrog(4, 5));
        for (int far : Parliaments.FAR) {
            Check.refused(p, "addFrog(" + far + ", 5)", Parliaments.INDEX,
                    () -> p.addFrog(far, 5));
        }
        Check.equal("addFrog(0, 5)", 0, Observed.answer(() -> p.addFrog(0, 5)));
        Check.equal("addFrog(3, 5)", 1, Observed.answer(() -> p.addFrog(3, 5)));
    }

    private static void wrongWeight() {
        FrogParliament p = new FrogParliament();
        Check.refused(p, "addFrog(0, 0)", Parliaments.ARGUMENT, () -> p.addFrog(0, 0));
        Check.refused(p, "addFrog(3, 10)", Parliaments.ARGUMENT, () -> p.addFrog(3, 10));
        for (int far : Parliaments.FAR) {
            Check.refused(p, "addFrog(0, " + far + ")", Parliaments.ARGUMENT,
                    () -> p.addFrog(0, far));
        }
        Check.equal("addFrog(0, 1)", 0, Observed.answer(() -> p.addFrog(0, 1)));
        Check.equal("addFrog(0, 9)", 1, Observed.answer(() -> p.addFrog(0, 9)));
    }

    private static void frogTooMany() {
        for (int frogs = 0; frogs < 12; frogs++) {
            FrogParliament p = Parliaments.with(frogs, 0, 0);
            Check.equal("addFrog with " + frogs + " frogs", frogs,
                    Observed.answer(() -> p.addFrog(3, 9)));
        }
        FrogParliament p = Parliaments.with(12, 0, 0);
        for (int pond = 0; pond < 4; pond++) {
            int number = pond;
            Check.refused(p, "addFrog with 12 frogs", Parliaments.STATE,
                    () -> p.addFrog(number, 9 - number));
        }
    }

    private static void newPads() {
        FrogParliament p = Parliaments.with(12, 0, 0);
        for (int pad = 0; pad < 6; pad++) {
            p.addPad(2);
            Check.equal("frogsOn a new pad", 0, p.frogsOn(pad));
            Check.equal("padWeight of a new pad", 0, p.padWeight(pad));
            p.hop(2 * pad, pad);
            p.hop(2 * pad + 1, pad);
        }
        FrogParliament again = Parliaments.with(1, 1, 0);
        again.hop(0, 0);
        again.undo();
        again.undo();
        again.addPad(1);
        Check.equal("frogsOn a number used again", 0, again.frogsOn(0));
    }

    private static void capacityParameter() {
        for (int capacity = 1; capacity <= MAX_CAPACITY; capacity++) {
            FrogParliament p = Parliaments.with(5, 0, 0);
            int number = capacity;
            Check.equal("addPad(" + capacity + ")", 0, Observed.answer(() -> p.addPad(number)));
            for (int frog = 0; frog < 5; frog++) {
                int f = frog;
                Check.equal("hop(" + frog + ", 0) on a pad of " + capacity,
                        frog < capacity ? (Object) (frog + 1) : "IllegalStateException",
                        Observed.answer(() -> p.hop(f, 0)));
            }
        }
    }

    private static void wrongCapacity() {
        FrogParliament p = new FrogParliament();
        Check.refused(p, "addPad(0)", Parliaments.ARGUMENT, () -> p.addPad(0));
        Check.refused(p, "addPad(5)", Parliaments.ARGUMENT, () -> p.addPad(5));
        for (int far : Parliaments.FAR) {
            Check.refused(p, "addPad(" + far + ")", Parliaments.ARGUMENT, () -> p.addPad(far));
        }
        Check.equal("addPad(1)", 0, Observed.answer(() -> p.addPad(1)));
        Check.equal("addPad(4)", 1, Observed.answer(() -> p.addPad(4)));
    }

    private static void padTooMany() {
        for (int pads = 0; pads < 6; pads++) {
            FrogParliament p = Parliaments.with(0, pads, 0);
            Check.equal("addPad with " + pads + " pads", pads,
                    Observed.answer(() -> p.addPad(4)));
        }
        FrogParliament p = Parliaments.with(0, 6, 0);
        for (int capacity = 1; capacity <= MAX_CAPACITY; capacity++) {
            int number = capacity;
            Check.refused(p, "addPad with 6 pads", Parliaments.STATE, () -> p.addPad(number));
        }
    }

    private static void hopFromPadOrWater() {
        for (int from = -1; from < 6; from++) {
            for (int to = 0; to < 6; to++) {
                FrogParliament p = Parliaments.with(12, 6, 0);
                int[] pads = {from, to};
                if (from >= 0) {
                    p.hop(11, from);
                }
                String what = "hop from " + from + " to " + to;
                if (from != to) {
                    Check.equal(what, 1, Observed.answer(() -> p.hop(11, pads[1])));
                }
                Check.equal("padOf after " + what, to, p.padOf(11));
                Check.equal("sittingCount after " + what, 1, p.sittingCount());
                Check.equal("sittingCountBySet after " + what, 1, p.sittingCountBySet());
            }
        }
    }

    private static void hopCounts() {
        FrogParliament p = Parliaments.with(12, 6, 0);
        for (int frog = 0; frog < 12; frog++) {
            Check.equal("hop on a pad with " + frog / 3 + " frogs", frog / 3 + 1,
                    p.hop(frog, frog % 3));
        }
        Check.equal("hop from a full pad on an empty one", 1, p.hop(9, 5));
        Check.equal("frogsOn the pad behind", 3, p.frogsOn(0));
        Check.equal("hop back", 4, p.hop(9, 0));
    }

    private static void hopOfNone() {
        Parliaments.onlyFrogsThatThereAre("hop(frog, 0)", (p, frog) -> p.hop(frog, 0));
        Parliaments.onlyFrogsThatThereAre("hop(frog, 5)", (p, frog) -> p.hop(frog, 5));
        Parliaments.onlyPadsThatThereAre("hop(0, pad)", (p, pad) -> p.hop(0, pad));
        Parliaments.onlyPadsThatThereAre("hop(11, pad)", (p, pad) -> p.hop(11, pad));
        FrogParliament p = Parliaments.with(2, 1, 0);
        p.hop(0, 0);
        for (int far : Parliaments.FAR) {
            Check.refused(p, "hop(0, far) from a pad", Parliaments.INDEX, () -> p.hop(0, far));
            Check.refused(p, "hop(far, far)", Parliaments.INDEX, () -> p.hop(far, far));
        }
    }

    private static void hopRefused() {
        FrogParliament p = new FrogParliament();
        for (int frog = 0; frog < 6; frog++) {
            p.addFrog(frog % 4, 1);
        }
        p.addPad(3);
        p.addPad(1);
        p.hop(0, 0);
        Check.refused(p, "hop on the own pad, alone", Parliaments.STATE, () -> p.hop(0, 0));
        p.hop(1, 0);
        Check.refused(p, "hop on the own pad", Parliaments.STATE, () -> p.hop(1, 0));
        p.hop(2, 0);
        Check.refused(p, "hop on the own full pad", Parliaments.STATE, () -> p.hop(0, 0));
        Check.refused(p, "hop from the water on a full pad", Parliaments.STATE,
                () -> p.hop(3, 0));
        Check.equal("hop on the other pad", 1, Observed.answer(() -> p.hop(3, 1)));
        Check.refused(p, "hop from pad to full pad", Parliaments.STATE, () -> p.hop(3, 0));
        Check.refused(p, "hop from full pad to full pad", Parliaments.STATE, () -> p.hop(2, 1));
        p.dive(3);
        Check.equal("hop from a full pad", 1, Observed.answer(() -> p.hop(2, 1)));
        Check.equal("hop on a pad with one place left", 3, Observed.answer(() -> p.hop(4, 0)));
        Check.refused(p, "hop on the pad that is full again", Parliaments.STATE,
                () -> p.hop(2, 0));
    }

    private static void dive() {
        FrogParliament p = Parliaments.with(12, 6, 0);
        for (int frog = 0; frog < 12; frog++) {
            p.hop(frog, frog / 2);
        }
        for (int frog = 11; frog >= 0; frog--) {
            int f = frog;
            Check.equal("dive(" + frog + ")", frog / 2, Observed.answer(() -> p.dive(f)));
            Check.equal("padOf after a dive", "NoSuchElementException",
                    Observed.answer(() -> p.padOf(f)));
            Check.equal("frogsOn after a dive", frog % 2, p.frogsOn(frog / 2));
            Check.equal("sittingCount after a dive", frog, p.sittingCount());
            Check.equal("sittingCountBySet after a dive", frog, p.sittingCountBySet());
        }
    }

    private static void diveFromWater() {
        FrogParliament p = Parliaments.with(12, 1, 0);
        for (int frog = 0; frog < 12; frog++) {
            int f = frog;
            Check.refused(p, "dive of a new frog", Parliaments.STATE, () -> p.dive(f));
            p.hop(frog, 0);
            Check.equal("dive from pad 0", 0, Observed.answer(() -> p.dive(f)));
            Check.refused(p, "dive again", Parliaments.STATE, () -> p.dive(f));
        }
    }

    private static void frogCount() {
        for (int frogs = 0; frogs <= 12; frogs++) {
            Check.equal("frogCount", frogs, Parliaments.with(frogs, 3, 3).frogCount());
        }
    }

    private static void padOfInWater() {
        FrogParliament p = Parliaments.with(12, 6, 0);
        for (int frog = 0; frog < 12; frog++) {
            int f = frog;
            Check.refused(p, "padOf of a new frog", Parliaments.ELEMENT, () -> p.padOf(f));
            p.hop(frog, frog / 4);
            Check.equal("padOf", frog / 4, Observed.answer(() -> p.padOf(f)));
        }
        for (int frog = 0; frog < 12; frog++) {
            int f = frog;
            p.dive(frog);
            Check.refused(p, "padOf after a dive", Parliaments.ELEMENT, () -> p.padOf(f));
        }
    }

    private static void padCount() {
        for (int pads = 0; pads <= 6; pads++) {
            Check.equal("padCount", pads, Parliaments.with(3, pads, 3).padCount());
        }
    }

    private static void frogsOn() {
        FrogParliament p = Parliaments.with(12, 6, 0);
        for (int frog = 0; frog < 12; frog++) {
            Check.equal("frogsOn before", frog % 4, p.frogsOn(3 + frog / 4));
            p.hop(frog, 3 + frog / 4);
            Check.equal("frogsOn after", frog % 4 + 1, p.frogsOn(3 + frog / 4));
            Check.equal("frogsOn an empty pad", 0, p.frogsOn(0));
        }
    }

    private static void padWeight() {
        FrogParliament p = new FrogParliament();
        p.addPad(4);
        p.addPad(4);
        Check.equal("padWeight of an empty pad", 0, p.padWeight(0));
        for (int frog = 0; frog < 4; frog++) {
            p.addFrog(frog, 9);
            p.hop(frog, 0);
            Check.equal("padWeight of the heaviest", 9 * (frog + 1), p.padWeight(0));
            Check.equal("padWeight of an empty pad beside", 0, p.padWeight(1));
        }
        p.hop(2, 1);
        Check.equal("padWeight of the pad behind", 27, p.padWeight(0));
        Check.equal("padWeight of the new pad", 9, p.padWeight(1));
        p.dive(2);
        Check.equal("padWeight of a pad that is empty again", 0, p.padWeight(1));
    }

    private static void countsOfSitting(Parliaments.OfOne count) {
        FrogParliament p = Parliaments.with(12, 6, 0);
        Check.equal("the count with all in the water", 0, count.answer(p, 0));
        for (int frog = 0; frog < 12; frog++) {
            p.hop(frog, 5 - frog / 4);
            Check.equal("the count", frog + 1, count.answer(p, 0));
        }
        p.hop(11, 0);
        Check.equal("the count after a hop from pad to pad", 12, count.answer(p, 0));
        for (int frog = 0; frog < 12; frog++) {
            p.dive(frog);
            Check.equal("the count after a dive", 11 - frog, count.answer(p, 0));
        }
        Check.equal("the count of a new object", 0, count.answer(new FrogParliament(), 0));
    }

    private static void meanSittingWeight() {
        FrogParliament p = Parliaments.with(12, 6, 0);
        int sum = 0;
        for (int frog = 0; frog < 12; frog++) {
            p.hop(frog, frog / 2);
            sum += frog % 9 + 1;
            Check.equal("meanSittingWeight of " + (frog + 1),
                    (double) sum / (double) (frog + 1), p.meanSittingWeight());
        }
        for (int weight = 1; weight <= 9; weight++) {
            FrogParliament one = new FrogParliament();
            one.addFrog(0, weight);
            one.addFrog(0, 10 - weight);
            one.addPad(1);
            one.hop(0, 0);
            Check.equal("meanSittingWeight of one", (double) weight, one.meanSittingWeight());
        }
    }

    private static void meanOfNone() {
        FrogParliament p = new FrogParliament();
        Check.refused(p, "meanSittingWeight without frogs", Parliaments.ARITHMETIC,
                () -> p.meanSittingWeight());
        p.addFrog(0, 1);
        p.addPad(1);
        Check.refused(p, "meanSittingWeight in the water", Parliaments.ARITHMETIC,
                () -> p.meanSittingWeight());
        p.hop(0, 0);
        Check.equal("meanSittingWeight of the lightest", 1.0,
                Observed.answer(() -> p.meanSittingWeight()));
        p.dive(0);
        Check.refused(p, "meanSittingWeight after a dive", Parliaments.ARITHMETIC,
                () -> p.meanSittingWeight());
    }
}
