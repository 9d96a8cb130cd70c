import java.util.ArrayList;
import java.util.List;

/** The sentences of the terms on exceptions, looked at for every method that throws. */
final class ExceptionSentences {
    private ExceptionSentences() {
    }

    static void test(Sentences document) {
        document.holds(0, "A method that throws an exception changes nothing, except that run"
                + " clears the command text and sets the error position or the failed command.",
                ExceptionSentences::exceptionsChangeNothing);
        document.holds(0, "If several exceptions apply, the exception listed first is thrown.",
                ExceptionSentences::firstListedException);
    }

    /** Makes all calls that the full parliament refuses. */
    static void makeRefusedCalls(FrogParliament p) {
        for (Refused refused : refusals()) {
            Observed.answer(() -> refused.call.answer(p));
        }
    }

    /** A call that throws in the full parliament. */
    private static final class Refused {
        final String name;
        final Class<?> due;
        final Parliaments.Step call;

        Refused(String name, Class<?> due, Parliaments.Step call) {
            this.name = name;
            this.due = due;
            this.call = call;
        }
    }

    /**
     * Full of frogs, pads and motions: motion 0 is closed with frogs on its list, 1 is closed with
     * croaks, 2 is decided, 3 is open for pond 0 with frog 0 on its list, 4 and 5 are open. Frogs 6
     * to 11 are in the water. There is a snapshot, a line, an error position, a failed command, and
     * eight changes can be undone.
     */
    static FrogParliament full() {
        FrogParliament p = new FrogParliament();
        for (int k = 0; k < 12; k++) {
            p.addFrog(k % 4, k < 6 ? 9 : 1);
        }
        for (int pad = 0; pad < 6; pad++) {
            p.addPad(pad == 0 ? 1 : 4);
            p.addMotion(pad == 3 ? 1 : 15);
        }
        for (int frog = 0; frog < 6; frog++) {
            p.hop(frog, frog == 0 ? 0 : 1 + frog % 2);
        }
        Parliaments.speak(p, 0, 3);
        p.signUp(0, 1);
        p.signUp(0, 7);
        for (int motion = 0; motion < 3; motion++) {
            Parliaments.close(p, motion);
        }
        p.croak(2, 0, 9, true);
        p.decide(2);
        p.save();
        p.croak(1, 4, 2, false);
        p.croak(1, 5, 2, true);
        p.signUp(3, 8);
        p.signUp(3, 0);
        p.callNext(3);
        p.supportClosure(4, 1);
        p.supportClosure(4, 5);
        p.hop(5, 5);
        p.describeList(0);
        Parliaments.run(p, "pad x");
        Parliaments.run(p, "hop 5 4;pad 1");
        return p;
    }

    private static List<Refused> refusals() {
        List<Refused> all = new ArrayList<>();
        addRefusedFrogCalls(all);
        addRefusedListCalls(all);
        addRefusedCroakCalls(all);
        addRefusedQueries(all);
        return all;
    }

    private static void add(List<Refused> all, String name, Class<?> due, Parliaments.Step call) {
        all.add(new Refused(name, due, call));
    }

    private static void addRefusedFrogCalls(List<Refused> all) {
        add(all, "addFrog(4, 1)", Parliaments.INDEX, p -> p.addFrog(4, 1));
        add(all, "addFrog(0, 0)", Parliaments.ARGUMENT, p -> p.addFrog(0, 0));
        add(all, "addFrog(0, 1)", Parliaments.STATE, p -> p.addFrog(0, 1));
        add(all, "addPad(5)", Parliaments.ARGUMENT, p -> p.addPad(5));
        add(all, "addPad(1)", Parliaments.STATE, p -> p.addPad(1));
        add(all, "hop(12, 3)", Parliaments.INDEX, p -> p.hop(12, 3));
        add(all, "hop(0, 6)", Parliaments.INDEX, p -> p.hop(0, 6));
        add(all, "hop(0, 0)", Parliaments.STATE, p -> p.hop(0, 0));
        add(all, "hop(1, 0)", Parliaments.STATE, p -> p.hop(1, 0));
        add(all, "hop(11, 0)", Parliaments.STATE, p -> p.hop(11, 0));
        add(all, "dive(12)", Parliaments.INDEX, p -> p.dive(12));
        add(all, "dive(11)", Parliaments.STATE, p -> p.dive(11));
        add(all, "pondOf(12)", Parliaments.INDEX, p -> p.pondOf(12));
        add(all, "weightOf(12)", Parliaments.INDEX, p -> p.weightOf(12));
        add(all, "padOf(12)", Parliaments.INDEX, p -> p.padOf(12));
        add(all, "padOf(11)", Parliaments.ELEMENT, p -> p.padOf(11));
        add(all, "frogsOn(6)", Parliaments.INDEX, p -> p.frogsOn(6));
        add(all, "padWeight(6)", Parliaments.INDEX, p -> p.padWeight(6));
    }

    private static void addRefusedListCalls(List<Refused> all) {
        add(all, "addMotion(16)", Parliaments.ARGUMENT, p -> p.addMotion(16));
        add(all, "addMotion(1)", Parliaments.STATE, p -> p.addMotion(1));
        add(all, "isEntitled(6, 0)", Parliaments.INDEX, p -> p.isEntitled(6, 0));
        add(all, "signUp(6, 0)", Parliaments.INDEX, p -> p.signUp(6, 0));
        add(all, "signUp(5, 12)", Parliaments.INDEX, p -> p.signUp(5, 12));
        add(all, "signUp(3, 1)", Parliaments.ARGUMENT, p -> p.signUp(3, 1));
        add(all, "signUp(2, 0)", Parliaments.STATE, p -> p.signUp(2, 0));
        add(all, "signUp(0, 2)", Parliaments.STATE, p -> p.signUp(0, 2));
        add(all, "signUp(3, 0)", Parliaments.UNSUPPORTED, p -> p.signUp(3, 0));
        add(all, "strike(6, 0)", Parliaments.INDEX, p -> p.strike(6, 0));
        add(all, "strike(0, 0)", Parliaments.ELEMENT, p -> p.strike(0, 0));
        add(all, "callNext(6)", Parliaments.INDEX, p -> p.callNext(6));
        add(all, "callNext(5)", Parliaments.ELEMENT, p -> p.callNext(5));
        add(all, "listLength(6)", Parliaments.INDEX, p -> p.listLength(6));
        add(all, "nextFrog(6)", Parliaments.INDEX, p -> p.nextFrog(6));
        add(all, "nextFrog(5)", Parliaments.ELEMENT, p -> p.nextFrog(5));
        add(all, "nextFrogByScan(6)", Parliaments.INDEX, p -> p.nextFrogByScan(6));
        add(all, "nextFrogByScan(5)", Parliaments.ELEMENT, p -> p.nextFrogByScan(5));
        add(all, "frogsBefore(6, 0)", Parliaments.INDEX, p -> p.frogsBefore(6, 0));
        add(all, "frogsBefore(0, 0)", Parliaments.ELEMENT, p -> p.frogsBefore(0, 0));
        add(all, "speeches(12)", Parliaments.INDEX, p -> p.speeches(12));
        add(all, "speechesOn(6)", Parliaments.INDEX, p -> p.speechesOn(6));
        add(all, "frogAtRank(12)", Parliaments.ELEMENT, p -> p.frogAtRank(12));
    }

    private static void addRefusedCroakCalls(List<Refused> all) {
        add(all, "supportClosure(6, 0)", Parliaments.INDEX, p -> p.supportClosure(6, 0));
        add(all, "supportClosure(3, 1)", Parliaments.ARGUMENT, p -> p.supportClosure(3, 1));
        add(all, "supportClosure(2, 5)", Parliaments.STATE, p -> p.supportClosure(2, 5));
        add(all, "supportClosure(0, 5)", Parliaments.STATE, p -> p.supportClosure(0, 5));
        add(all, "supportClosure(5, 9)", Parliaments.UNSUPPORTED, p -> p.supportClosure(5, 9));
        add(all, "croak(1, 12, 1)", Parliaments.INDEX, p -> p.croak(1, 12, 1, true));
        add(all, "croak(1, 0, 10)", Parliaments.ARGUMENT, p -> p.croak(1, 0, 10, true));
        add(all, "croak(3, 1, 1)", Parliaments.ARGUMENT, p -> p.croak(3, 1, 1, true));
        add(all, "croak(2, 1, 1)", Parliaments.STATE, p -> p.croak(2, 1, 1, true));
        add(all, "croak(5, 1, 1)", Parliaments.STATE, p -> p.croak(5, 1, 1, true));
        add(all, "croak(0, 1, 1)", Parliaments.STATE, p -> p.croak(0, 1, 1, false));
        add(all, "croak(1, 9, 1)", Parliaments.UNSUPPORTED, p -> p.croak(1, 9, 1, true));
        add(all, "croak(1, 4, 9)", Parliaments.UNSUPPORTED, p -> p.croak(1, 4, 9, true));
        add(all, "decide(6)", Parliaments.INDEX, p -> p.decide(6));
        add(all, "decide(2)", Parliaments.STATE, p -> p.decide(2));
        add(all, "decide(5)", Parliaments.STATE, p -> p.decide(5));
        add(all, "decide(0)", Parliaments.STATE, p -> p.decide(0));
    }

    private static void addRefusedQueries(List<Refused> all) {
        add(all, "isListClosed(6)", Parliaments.INDEX, p -> p.isListClosed(6));
        add(all, "closureWeight(6)", Parliaments.INDEX, p -> p.closureWeight(6));
        add(all, "entitledWeight(6)", Parliaments.INDEX, p -> p.entitledWeight(6));
        add(all, "isDecided(6)", Parliaments.INDEX, p -> p.isDecided(6));
        add(all, "isAdopted(6)", Parliaments.INDEX, p -> p.isAdopted(6));
        add(all, "croaksFor(6)", Parliaments.INDEX, p -> p.croaksFor(6));
        add(all, "croaksForByPonds(6)", Parliaments.INDEX, p -> p.croaksForByPonds(6));
        add(all, "croaksAgainst(6)", Parliaments.INDEX, p -> p.croaksAgainst(6));
        add(all, "strongestFrog(6)", Parliaments.INDEX, p -> p.strongestFrog(6));
        add(all, "strongestFrog(5)", Parliaments.ELEMENT, p -> p.strongestFrog(5));
        add(all, "shareFor(6)", Parliaments.INDEX, p -> p.shareFor(6));
        add(all, "shareFor(5)", Parliaments.ARITHMETIC, p -> p.shareFor(5));
        add(all, "append(31)", Parliaments.ARGUMENT, p -> p.append((char) 31));
        add(all, "describeList(6)", Parliaments.INDEX, p -> p.describeList(6));
        add(all, "lineAt(5)", Parliaments.INDEX, p -> p.lineAt(5));
    }

    private static void exceptionsChangeNothing() {
        String rest = Observed.rest(full());
        String whole = Observed.whole(full());
        String probe = Observed.probe(full());
        for (Refused refused : refusals()) {
            FrogParliament p = full();
            Parliaments.type(p, "dive 4;hop 4 3");
            Check.refused(p, refused.name, refused.due, () -> refused.call.answer(p));
            Check.equal("the rest after " + refused.name, rest, Observed.rest(p));
            Check.equal("the text after " + refused.name, 2, Observed.answer(() -> p.run()));
            FrogParliament undone = full();
            Observed.answer(() -> refused.call.answer(undone));
            Check.equal("the whole after " + refused.name, whole, Observed.whole(undone));
            FrogParliament probed = full();
            Observed.answer(() -> refused.call.answer(probed));
            Check.equal("the probe after " + refused.name, probe, Observed.probe(probed));
        }
        refusedRuns(whole, probe);
        refusedUndoAndRestore();
        appendToFullText();
    }

    private static void refusedRuns(String whole, String probe) {
        String[] texts = {"", "dive 4;x", "dive 4;hop 4 9", "call 0;call 0;call 0",
            "croak 1 3+9;decide 1;decide 1", "strike 3 0;list 3 0;list 3 0"};
        int[] positions = {0, 7, 4, 4, 4, 4};
        int[] failed = {1, 1, 1, 2, 2, 2};
        for (int i = 0; i < texts.length; i++) {
            FrogParliament p = full();
            Check.equal("run of '" + texts[i] + "'",
                    i < 2 ? "IllegalArgumentException" : "IllegalStateException",
                    Parliaments.run(p, texts[i]));
            Check.equal("errorPosition", positions[i], p.errorPosition());
            Check.equal("failedCommand", failed[i], p.failedCommand());
            Check.equal("the line", "1,7~|", Observed.line(p));
            Check.equal("the text", 1, p.append('p'));
            Check.equal("the whole after a refused run", whole, Observed.whole(p));
            FrogParliament probed = full();
            Parliaments.run(probed, texts[i]);
            Check.equal("the probe after a refused run", probe, Observed.probe(probed));
        }
    }

    private static void refusedUndoAndRestore() {
        FrogParliament undone = allUndone();
        Check.refused(undone, "undo of the 9th", Parliaments.STATE, () -> undone.undo());
        Check.equal("the text after a refused undo", 4, undone.append('1'));
        Check.equal("the whole after a refused undo", Observed.whole(allUndone()),
                Observed.whole(undone));
        FrogParliament p = Parliaments.seated(3, 2, 1);
        Check.refused(p, "restore without a snapshot", Parliaments.STATE, () -> p.restore());
        Check.equal("the whole after a refused restore",
                Observed.whole(Parliaments.seated(3, 2, 1)), Observed.whole(p));
    }

    private static FrogParliament allUndone() {
        FrogParliament p = Parliaments.seated(3, 2, 1);
        p.save();
        for (int change = 0; change < 8; change++) {
            p.undo();
        }
        Parliaments.type(p, "pad");
        return p;
    }

    private static void appendToFullText() {
        FrogParliament p = new FrogParliament();
        Parliaments.type(p, "frog 01;frog 02;pad 1;pad 1;pad 1;pad 1;pad 1;pad 1;motion 1");
        Check.refused(p, "append to a full text", Parliaments.STATE, () -> p.append('5'));
        Check.equal("run after a refused append", 9, Observed.answer(() -> p.run()));
    }

    /** For every two exceptions of a method that can apply at once, a call to which they apply. */
    private static void firstListedException() {
        List<Refused> all = new ArrayList<>();
        addClashesOfFrogCalls(all);
        addClashesOfListCalls(all);
        addClashesOfCroakCalls(all);
        for (Refused refused : all) {
            FrogParliament p = full();
            Check.refused(p, refused.name, refused.due, () -> refused.call.answer(p));
        }
        List<Refused> strangers = new ArrayList<>();
        addClashesOfStrangers(strangers);
        for (Refused refused : strangers) {
            FrogParliament p = withStrangers();
            Check.refused(p, refused.name, refused.due, () -> refused.call.answer(p));
        }
        clashesOfTexts();
    }

    private static void clashesOfTexts() {
        FrogParliament p = new FrogParliament();
        for (int length = 0; length < 60; length++) {
            p.append(';');
        }
        Check.refused(p, "append(127) to 60", Parliaments.ARGUMENT, () -> p.append((char) 127));
        Check.refused(p, "append(31) to 60", Parliaments.ARGUMENT, () -> p.append((char) 31));
        FrogParliament running = new FrogParliament();
        Check.equal("run of a text with a failing command, but no command text",
                "IllegalArgumentException", Parliaments.run(running, "pad 9;pad x"));
        Check.refused(running, "failedCommand of no command text", Parliaments.ELEMENT,
                () -> running.failedCommand());
    }

    private static void addClashesOfFrogCalls(List<Refused> all) {
        add(all, "no pond, wrong weight, 12 frogs", Parliaments.INDEX, p -> p.addFrog(-1, 10));
        add(all, "no pond, 12 frogs", Parliaments.INDEX, p -> p.addFrog(4, 9));
        add(all, "wrong weight, 12 frogs", Parliaments.ARGUMENT, p -> p.addFrog(3, 0));
        add(all, "wrong capacity, 6 pads", Parliaments.ARGUMENT, p -> p.addPad(0));
        add(all, "no frog, full pad", Parliaments.INDEX, p -> p.hop(12, 0));
        add(all, "no pad, on a pad", Parliaments.INDEX, p -> p.hop(0, 6));
        add(all, "no pad, in the water", Parliaments.INDEX, p -> p.hop(11, -1));
        add(all, "no frog to dive", Parliaments.INDEX, p -> p.dive(-1));
        add(all, "no frog on a pad", Parliaments.INDEX, p -> p.padOf(-1));
    }

    private static void addClashesOfListCalls(List<Refused> all) {
        add(all, "wrong mask, 6 motions", Parliaments.ARGUMENT, p -> p.addMotion(0));
        add(all, "no frog, decided", Parliaments.INDEX, p -> p.signUp(2, 12));
        add(all, "no frog, closed", Parliaments.INDEX, p -> p.signUp(0, -1));
        add(all, "on the list, closed", Parliaments.STATE, p -> p.signUp(0, 1));
        add(all, "no frog to strike", Parliaments.INDEX, p -> p.strike(5, 12));
        add(all, "no motion to strike off", Parliaments.INDEX, p -> p.strike(6, 11));
        add(all, "no frog before", Parliaments.INDEX, p -> p.frogsBefore(5, 12));
        add(all, "no motion to call", Parliaments.INDEX, p -> p.callNext(-1));
        add(all, "no motion with a next frog", Parliaments.INDEX, p -> p.nextFrog(-1));
        add(all, "no motion to scan", Parliaments.INDEX, p -> p.nextFrogByScan(-1));
    }

    private static void addClashesOfCroakCalls(List<Refused> all) {
        add(all, "no frog, decided", Parliaments.INDEX, p -> p.supportClosure(2, 12));
        add(all, "no frog, closed", Parliaments.INDEX, p -> p.supportClosure(0, 12));
        add(all, "not entitled, in the water", Parliaments.ARGUMENT, p -> p.supportClosure(3, 9));
        add(all, "decided, in the water", Parliaments.STATE, p -> p.supportClosure(2, 9));
        add(all, "closed, in the water", Parliaments.STATE, p -> p.supportClosure(0, 9));
        add(all, "no frog, wrong loudness", Parliaments.INDEX, p -> p.croak(1, 12, 0, true));
        add(all, "no motion, wrong loudness", Parliaments.INDEX, p -> p.croak(6, 0, 10, true));
        add(all, "no frog, decided", Parliaments.INDEX, p -> p.croak(2, 12, 1, true));
        add(all, "no frog, open", Parliaments.INDEX, p -> p.croak(5, -1, 1, true));
        add(all, "no frog, on the list", Parliaments.INDEX, p -> p.croak(0, 12, 1, true));
        add(all, "wrong loudness, decided", Parliaments.ARGUMENT, p -> p.croak(2, 1, 0, true));
        add(all, "wrong loudness, open", Parliaments.ARGUMENT, p -> p.croak(5, 1, 10, true));
        add(all, "wrong loudness, frogs on the list", Parliaments.ARGUMENT,
                p -> p.croak(0, 1, 10, true));
        add(all, "wrong loudness, in the water", Parliaments.ARGUMENT,
                p -> p.croak(1, 9, 10, true));
        add(all, "wrong loudness, has croaked", Parliaments.ARGUMENT,
                p -> p.croak(1, 4, 0, true));
        add(all, "not entitled, open", Parliaments.ARGUMENT, p -> p.croak(3, 1, 1, true));
        add(all, "in the water, open", Parliaments.STATE, p -> p.croak(5, 9, 1, true));
        add(all, "in the water, frogs on the list", Parliaments.STATE,
                p -> p.croak(0, 9, 1, true));
        add(all, "in the water, decided", Parliaments.STATE, p -> p.croak(2, 9, 1, true));
        add(all, "has croaked, decided", Parliaments.STATE, p -> p.croak(2, 0, 1, true));
        add(all, "no motion to decide", Parliaments.INDEX, p -> p.decide(-1));
        add(all, "no motion with croaks", Parliaments.INDEX, p -> p.strongestFrog(-1));
        add(all, "no motion to share", Parliaments.INDEX, p -> p.shareFor(-1));
    }

    /** Motions of pond 0, 0 closed and 1 decided; frog 1 is of pond 1, 2 of pond 2 in the water. */
    private static FrogParliament withStrangers() {
        FrogParliament p = Parliaments.with(3, 1, 0);
        for (int motion = 0; motion < 2; motion++) {
            p.addMotion(1);
            p.hop(motion, 0);
            p.supportClosure(motion, 0);
        }
        p.decide(1);
        return p;
    }

    private static void addClashesOfStrangers(List<Refused> all) {
        add(all, "not entitled, closed", Parliaments.ARGUMENT, p -> p.signUp(0, 1));
        add(all, "not entitled, decided", Parliaments.ARGUMENT, p -> p.signUp(1, 1));
        add(all, "not entitled, closed", Parliaments.ARGUMENT, p -> p.supportClosure(0, 1));
        add(all, "not entitled, decided", Parliaments.ARGUMENT, p -> p.supportClosure(1, 1));
        add(all, "not entitled, closed, in the water", Parliaments.ARGUMENT,
                p -> p.supportClosure(0, 2));
        add(all, "not entitled, decided", Parliaments.ARGUMENT, p -> p.croak(1, 1, 1, true));
        add(all, "not entitled, in the water", Parliaments.ARGUMENT, p -> p.croak(0, 2, 1, true));
        add(all, "not entitled, wrong loudness", Parliaments.ARGUMENT,
                p -> p.croak(0, 1, 10, true));
    }
}
