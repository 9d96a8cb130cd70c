/** Parliaments that many tests start from, and numbers that are out of every range. */
final class Parliaments {
    static final Class<?> INDEX = IndexOutOfBoundsException.class;
    static final Class<?> ARGUMENT = IllegalArgumentException.class;
    static final Class<?> STATE = IllegalStateException.class;
    static final Class<?> UNSUPPORTED = UnsupportedOperationException.class;
    static final Class<?> ELEMENT = java.util.NoSuchElementException.class;
    static final Class<?> ARITHMETIC = ArithmeticException.class;

    /** Just outside, where a shift or a narrower type wraps around, and the ends of int. */
    static final int[] FAR = {-1, -2, -31, -32, 16, 31, 32, 33, 64, 255, 256, 257, 65536, 65537,
        1 << 30, Integer.MIN_VALUE, Integer.MIN_VALUE + 1, Integer.MAX_VALUE};

    static final int MAX_FROGS = 12;
    static final int MAX_PADS = 6;
    static final int MAX_MOTIONS = 6;

    private Parliaments() {
    }

    /** Any call. */
    interface Step {
        Object answer(FrogParliament parliament);
    }

    /** A call with a frog, a pad or a motion. */
    interface OfOne {
        Object answer(FrogParliament parliament, int number);
    }

    /** A call with a motion and a frog. */
    interface OfTwo {
        Object answer(FrogParliament parliament, int motion, int frog);
    }

    /** Frog k of pond k % 4 and weight k % 9 + 1 in the water, empty pads, motions of all ponds. */
    static FrogParliament with(int frogs, int pads, int motions) {
        FrogParliament p = new FrogParliament();
        for (int frog = 0; frog < frogs; frog++) {
            p.addFrog(frog % 4, frog % 9 + 1);
        }
        for (int pad = 0; pad < pads; pad++) {
            p.addPad(4);
        }
        for (int motion = 0; motion < motions; motion++) {
            p.addMotion(15);
        }
        return p;
    }

    /** Six pads for two, frog k of pond k % 4 on pad k / 2, and motion 0 of all ponds. */
    static FrogParliament seated(int... weights) {
        FrogParliament p = new FrogParliament();
        for (int pad = 0; pad < MAX_PADS; pad++) {
            p.addPad(2);
        }
        for (int frog = 0; frog < weights.length; frog++) {
            p.addFrog(frog % 4, weights[frog]);
            p.hop(frog, frog / 2);
        }
        p.addMotion(15);
        return p;
    }

    /** As seated, with the list of motion 0 closed. */
    static FrogParliament closed(int... weights) {
        FrogParliament p = seated(weights);
        close(p, 0);
        return p;
    }

    /** Closes the list, if the frogs on pads can. */
    static void close(FrogParliament p, int motion) {
        for (int frog = 0; frog < p.frogCount() && !p.isListClosed(motion); frog++) {
            int supporter = frog;
            Observed.answer(() -> p.supportClosure(motion, supporter));
        }
    }

    static void speak(FrogParliament p, int motion, int frog) {
        p.signUp(motion, frog);
        p.callNext(motion);
    }

    static void type(FrogParliament p, String text) {
        for (int i = 0; i < text.length(); i++) {
            p.append(text.charAt(i));
        }
    }

    /** What run answers to this text. */
    static Object run(FrogParliament p, String text) {
        type(p, text);
        return Observed.answer(() -> p.run());
    }

    static String list(FrogParliament p, int motion) {
        p.describeList(motion);
        return Observed.line(p);
    }

    /** With every number of frogs, just those that there are can be named. */
    static void onlyFrogsThatThereAre(String name, OfOne call) {
        for (int frogs = 0; frogs <= MAX_FROGS; frogs++) {
            onlyNumbersBelow(name + " with " + frogs + " frogs", frogs, with(frogs, 6, 1), call);
        }
    }

    static void onlyPadsThatThereAre(String name, OfOne call) {
        for (int pads = 0; pads <= MAX_PADS; pads++) {
            onlyNumbersBelow(name + " with " + pads + " pads", pads, with(12, pads, 6), call);
        }
    }

    static void onlyMotionsThatThereAre(String name, OfOne call) {
        for (int motions = 0; motions <= MAX_MOTIONS; motions++) {
            String what = name + " with " + motions + " motions";
            onlyNumbersBelow(what, motions, with(12, 6, motions), call);
        }
    }

    static void onlyPairsThatThereAre(String name, OfTwo call) {
        onlyMotionsThatThereAre(name, (p, motion) -> call.answer(p, motion, 0));
        onlyMotionsThatThereAre(name, (p, motion) -> call.answer(p, motion, 11));
        onlyFrogsThatThereAre(name, (p, frog) -> call.answer(p, 0, frog));
        FrogParliament none = new FrogParliament();
        Check.refused(none, name + " of a new object", INDEX, () -> call.answer(none, 0, 0));
        FrogParliament p = with(2, 1, 1);
        for (int far : FAR) {
            Check.refused(p, name + "(" + far + ", " + far + ")", INDEX,
                    () -> call.answer(p, far, far));
        }
    }

    private static void onlyNumbersBelow(String what, int bound, FrogParliament p, OfOne call) {
        for (int number = bound; number <= 13; number++) {
            int n = number;
            Check.refused(p, what + ": " + n, INDEX, () -> call.answer(p, n));
        }
        for (int far : FAR) {
            Check.refused(p, what + ": " + far, INDEX, () -> call.answer(p, far));
        }
        for (int number = 0; number < bound; number++) {
            int n = number;
            Check.notRefused(what + ": " + n, INDEX, () -> call.answer(p, n));
        }
    }
}
