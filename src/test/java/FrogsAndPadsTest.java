/** Promises 1 to 14, and 50. */
public final class FrogsAndPadsTest {
    private static final Class<?> INDEX = IndexOutOfBoundsException.class;
    private static final Class<?> ARGUMENT = IllegalArgumentException.class;
    private static final Class<?> STATE = IllegalStateException.class;
    private static final Class<?> ELEMENT = java.util.NoSuchElementException.class;
    private static final int[] FAR = {-1, Integer.MIN_VALUE, Integer.MAX_VALUE};

    public static void main(String[] args) {
        newObject();
        addFrog();
        addPad();
        hop();
        dive();
        frogQueries();
        padQueries();
        sittingCounts();
        meanSittingWeight();
        Check.end("FrogsAndPadsTest");
    }

    private static void newObject() {
        FrogParliament p = new FrogParliament();
        Check.equal("frogCount of a new object", 0, p.frogCount());
        Check.equal("padCount of a new object", 0, p.padCount());
        Check.equal("motionCount of a new object", 0, p.motionCount());
        Check.equal("sittingCount of a new object", 0, p.sittingCount());
        Check.equal("sittingCountBySet of a new object", 0, p.sittingCountBySet());
        Check.equal("speechTotal of a new object", 0, p.speechTotal());
        Check.equal("missedTotal of a new object", 0, p.missedTotal());
        Check.equal("adoptedCount of a new object", 0, p.adoptedCount());
        Check.equal("isConsistent of a new object", true, p.isConsistent());
        Check.equal("the line of a new object", "", Observed.line(p));
        Check.refused(p, "undo of a new object", STATE, () -> p.undo());
        Check.refused(p, "restore of a new object", STATE, () -> p.restore());
        Check.refused(p, "errorPosition of a new object", ELEMENT, () -> p.errorPosition());
        Check.refused(p, "failedCommand of a new object", ELEMENT, () -> p.failedCommand());
        FrogParliament other = new FrogParliament();
        p.addFrog(0, 1);
        Check.equal("frogCount of another object", 0, other.frogCount());
    }

    private static void addFrog() {
        FrogParliament p = new FrogParliament();
        Check.refused(p, "addFrog(-1, 1)", INDEX, () -> p.addFrog(-1, 1));
        Check.refused(p, "addFrog(4, 1)", INDEX, () -> p.addFrog(4, 1));
        Check.refused(p, "addFrog(0, 0)", ARGUMENT, () -> p.addFrog(0, 0));
        Check.refused(p, "addFrog(0, 10)", ARGUMENT, () -> p.addFrog(0, 10));
        Check.refused(p, "addFrog(4, 10)", INDEX, () -> p.addFrog(4, 10));
        for (int far : FAR) {
            Check.refused(p, "addFrog(far, 1)", INDEX, () -> p.addFrog(far, 1));
            Check.refused(p, "addFrog(3, far)", ARGUMENT, () -> p.addFrog(3, far));
        }
        for (int frog = 0; frog < 12; frog++) {
            Check.equal("addFrog", frog, p.addFrog(frog % 4, frog % 9 + 1));
            Check.equal("frogCount", frog + 1, p.frogCount());
        }
        Check.refused(p, "addFrog as the 13th", STATE, () -> p.addFrog(0, 1));
        Check.refused(p, "addFrog(4, 1) as the 13th", INDEX, () -> p.addFrog(4, 1));
        Check.refused(p, "addFrog(0, 0) as the 13th", ARGUMENT, () -> p.addFrog(0, 0));
        Check.equal("sittingCount of added frogs", 0, p.sittingCount());
    }

    private static void addPad() {
        FrogParliament p = new FrogParliament();
        Check.refused(p, "addPad(0)", ARGUMENT, () -> p.addPad(0));
        Check.refused(p, "addPad(5)", ARGUMENT, () -> p.addPad(5));
        for (int far : FAR) {
            Check.refused(p, "addPad(far)", ARGUMENT, () -> p.addPad(far));
        }
        for (int pad = 0; pad < 6; pad++) {
            Check.equal("addPad", pad, p.addPad(pad % 4 + 1));
            Check.equal("padCount", pad + 1, p.padCount());
            Check.equal("frogsOn a new pad", 0, p.frogsOn(pad));
        }
        Check.refused(p, "addPad as the 7th", STATE, () -> p.addPad(1));
        Check.refused(p, "addPad(5) as the 7th", ARGUMENT, () -> p.addPad(5));
    }

    private static void hop() {
        for (int capacity = 1; capacity <= 4; capacity++) {
            FrogParliament p = new FrogParliament();
            p.addPad(capacity);
            for (int frog = 0; frog < capacity; frog++) {
                p.addFrog(0, 1);
                Check.equal("hop", frog + 1, p.hop(frog, 0));
            }
            int late = p.addFrog(0, 1);
            Check.refused(p, "hop on a full pad", STATE, () -> p.hop(late, 0));
            Check.refused(p, "hop on the own full pad", STATE, () -> p.hop(0, 0));
            p.dive(0);
            Check.equal("hop where a frog dived", capacity, p.hop(late, 0));
        }
        FrogParliament p = new FrogParliament();
        Check.refused(p, "hop without frogs and pads", INDEX, () -> p.hop(0, 0));
        p.addFrog(0, 1);
        Check.refused(p, "hop without pads", INDEX, () -> p.hop(0, 0));
        p.addPad(2);
        p.addPad(1);
        for (int far : FAR) {
            Check.refused(p, "hop(far, 0)", INDEX, () -> p.hop(far, 0));
            Check.refused(p, "hop(0, far)", INDEX, () -> p.hop(0, far));
        }
        Check.refused(p, "hop(1, 0)", INDEX, () -> p.hop(1, 0));
        Check.refused(p, "hop(0, 2)", INDEX, () -> p.hop(0, 2));
        p.hop(0, 0);
        Check.refused(p, "hop on the own pad", STATE, () -> p.hop(0, 0));
        Check.equal("hop from pad to pad", 1, p.hop(0, 1));
        Check.equal("padOf after a hop", 1, p.padOf(0));
        Check.equal("frogsOn the left pad", 0, p.frogsOn(0));
        Check.equal("frogsOn the new pad", 1, p.frogsOn(1));
        Check.equal("sittingCountBySet after a hop", 1, p.sittingCountBySet());
    }

    private static void dive() {
        FrogParliament p = new FrogParliament();
        Check.refused(p, "dive without frogs", INDEX, () -> p.dive(0));
        p.addFrog(0, 1);
        p.addPad(1);
        p.addPad(1);
        for (int far : FAR) {
            Check.refused(p, "dive(far)", INDEX, () -> p.dive(far));
        }
        Check.refused(p, "dive(1)", INDEX, () -> p.dive(1));
        Check.refused(p, "dive from the water", STATE, () -> p.dive(0));
        p.hop(0, 1);
        Check.equal("dive", 1, p.dive(0));
        Check.equal("frogsOn after a dive", 0, p.frogsOn(1));
        Check.equal("sittingCountBySet after a dive", 0, p.sittingCountBySet());
        Check.refused(p, "dive again", STATE, () -> p.dive(0));
        Check.refused(p, "padOf after a dive", ELEMENT, () -> p.padOf(0));
    }

    private static void frogQueries() {
        FrogParliament p = new FrogParliament();
        for (int frog = 0; frog < 12; frog++) {
            p.addFrog(3 - frog % 4, 9 - frog % 9);
        }
        for (int frog = 0; frog < 12; frog++) {
            int f = frog;
            Check.equal("pondOf", 3 - frog % 4, p.pondOf(frog));
            Check.equal("weightOf", 9 - frog % 9, p.weightOf(frog));
            Check.refused(p, "padOf in the water", ELEMENT, () -> p.padOf(f));
        }
        int[] wrong = {-1, 12, Integer.MIN_VALUE, Integer.MAX_VALUE};
        for (int frog : wrong) {
            Check.refused(p, "pondOf(wrong)", INDEX, () -> p.pondOf(frog));
            Check.refused(p, "weightOf(wrong)", INDEX, () -> p.weightOf(frog));
            Check.refused(p, "padOf(wrong)", INDEX, () -> p.padOf(frog));
        }
        p.addPad(1);
        p.hop(11, 0);
        Check.equal("padOf", 0, p.padOf(11));
        FrogParliament few = new FrogParliament();
        few.addFrog(0, 1);
        Check.refused(few, "pondOf of no frog", INDEX, () -> few.pondOf(1));
        Check.refused(few, "weightOf of no frog", INDEX, () -> few.weightOf(1));
        Check.refused(few, "padOf of no frog", INDEX, () -> few.padOf(1));
    }

    private static void padQueries() {
        FrogParliament p = new FrogParliament();
        Check.refused(p, "frogsOn without pads", INDEX, () -> p.frogsOn(0));
        Check.refused(p, "padWeight without pads", INDEX, () -> p.padWeight(0));
        p.addPad(4);
        p.addPad(4);
        int[] weights = {9, 8, 7, 6, 5};
        for (int frog = 0; frog < weights.length; frog++) {
            p.addFrog(frog % 4, weights[frog]);
        }
        for (int frog = 0; frog < 4; frog++) {
            p.hop(frog, 0);
        }
        p.hop(4, 1);
        Check.equal("frogsOn(0)", 4, p.frogsOn(0));
        Check.equal("padWeight(0)", 30, p.padWeight(0));
        Check.equal("frogsOn(1)", 1, p.frogsOn(1));
        Check.equal("padWeight(1)", 5, p.padWeight(1));
        p.dive(1);
        Check.equal("frogsOn(0) after a dive", 3, p.frogsOn(0));
        Check.equal("padWeight(0) after a dive", 22, p.padWeight(0));
        int[] wrong = {-1, 2, 6, Integer.MIN_VALUE, Integer.MAX_VALUE};
        for (int pad : wrong) {
            Check.refused(p, "frogsOn(wrong)", INDEX, () -> p.frogsOn(pad));
            Check.refused(p, "padWeight(wrong)", INDEX, () -> p.padWeight(pad));
        }
    }

    private static void sittingCounts() {
        FrogParliament p = new FrogParliament();
        for (int pad = 0; pad < 6; pad++) {
            p.addPad(2);
        }
        for (int frog = 0; frog < 12; frog++) {
            p.addFrog(0, 1);
            p.hop(frog, frog / 2);
            Check.equal("sittingCount", frog + 1, p.sittingCount());
            Check.equal("sittingCountBySet", frog + 1, p.sittingCountBySet());
        }
        for (int frog = 0; frog < 12; frog++) {
            p.dive(frog);
            Check.equal("sittingCount", 11 - frog, p.sittingCount());
            Check.equal("sittingCountBySet", 11 - frog, p.sittingCountBySet());
        }
    }

    private static void meanSittingWeight() {
        FrogParliament p = new FrogParliament();
        Class<?> arithmetic = ArithmeticException.class;
        Check.refused(p, "meanSittingWeight of no frog", arithmetic, () -> p.meanSittingWeight());
        p.addPad(4);
        p.addFrog(0, 9);
        p.addFrog(0, 1);
        p.addFrog(0, 1);
        p.addFrog(0, 7);
        Check.refused(p, "meanSittingWeight in the water", arithmetic,
                () -> p.meanSittingWeight());
        p.hop(0, 0);
        Check.equal("meanSittingWeight of one", 9.0, p.meanSittingWeight());
        p.hop(1, 0);
        Check.equal("meanSittingWeight of two", 5.0, p.meanSittingWeight());
        p.hop(2, 0);
        Check.equal("meanSittingWeight of three", 11.0 / 3.0, p.meanSittingWeight());
        p.dive(0);
        p.dive(1);
        p.dive(2);
        Check.refused(p, "meanSittingWeight of none left", arithmetic,
                () -> p.meanSittingWeight());
    }
}
