/** Promises 28 to 40, 43 and 51. */
public final class ClosuresAndCroaksTest {
    private static final Class<?> INDEX = IndexOutOfBoundsException.class;
    private static final Class<?> ARGUMENT = IllegalArgumentException.class;
    private static final Class<?> STATE = IllegalStateException.class;
    private static final Class<?> UNSUPPORTED = UnsupportedOperationException.class;
    private static final Class<?> ELEMENT = java.util.NoSuchElementException.class;
    private static final Class<?> ARITHMETIC = ArithmeticException.class;
    private static final int[] WRONG = {-1, 6, 12, Integer.MIN_VALUE, Integer.MAX_VALUE};

    public static void main(String[] args) {
        supportClosure();
        halfIsNotEnough();
        laterFrogs();
        supportersInTheWater();
        croak();
        croakOrderOfExceptions();
        decide();
        strongestFrog();
        shareFor();
        croaksByPonds();
        adoptedCount();
        wrongMotionsAndFrogs();
        isConsistent();
        Check.end("ClosuresAndCroaksTest");
    }

    /** Frogs with these weights, frog k of pond k % 4, on pads, and one motion of all ponds. */
    private static FrogParliament seated(int... weights) {
        FrogParliament p = new FrogParliament();
        for (int pad = 0; pad < 6; pad++) {
            p.addPad(2);
        }
        for (int frog = 0; frog < weights.length; frog++) {
            p.addFrog(frog % 4, weights[frog]);
            p.hop(frog, frog / 2);
        }
        p.addMotion(15);
        return p;
    }

    private static FrogParliament closed(int... weights) {
        FrogParliament p = seated(weights);
        for (int frog = 0; frog < weights.length && !p.isListClosed(0); frog++) {
            p.supportClosure(0, frog);
        }
        Check.equal("isListClosed", true, p.isListClosed(0));
        return p;
    }

    private static void supportClosure() {
        FrogParliament p = seated(1, 2, 3, 4, 9);
        p.addFrog(0, 9);
        Check.refused(p, "supportClosure from the water", UNSUPPORTED,
                () -> p.supportClosure(0, 5));
        p.addMotion(2);
        Check.refused(p, "supportClosure of a stranger", ARGUMENT, () -> p.supportClosure(1, 0));
        Check.refused(p, "supportClosure of a stranger in the water", ARGUMENT,
                () -> p.supportClosure(1, 5));
        Check.equal("closureWeight of none", 0, p.closureWeight(0));
        Check.equal("entitledWeight", 28, p.entitledWeight(0));
        Check.equal("entitledWeight of one pond", 2, p.entitledWeight(1));
        Check.equal("supportClosure", false, p.supportClosure(0, 4));
        Check.equal("closureWeight", 9, p.closureWeight(0));
        Check.equal("supportClosure again", false, p.supportClosure(0, 4));
        Check.equal("closureWeight of the same", 9, p.closureWeight(0));
        Check.equal("closureWeight of another motion", 0, p.closureWeight(1));
        Check.equal("supportClosure at less than half", false, p.supportClosure(0, 3));
        Check.equal("isListClosed", false, p.isListClosed(0));
        Check.equal("supportClosure at more than half", true, p.supportClosure(0, 1));
        Check.equal("isListClosed", true, p.isListClosed(0));
        Check.equal("isListClosed of another motion", false, p.isListClosed(1));
        Check.refused(p, "supportClosure of a closed list", STATE, () -> p.supportClosure(0, 0));
        Check.refused(p, "supportClosure of a closed list by a supporter", STATE,
                () -> p.supportClosure(0, 4));
        Check.refused(p, "supportClosure of a closed list from the water", STATE,
                () -> p.supportClosure(0, 5));
        Check.equal("supportClosure of the only one", true, p.supportClosure(1, 1));
        p.decide(1);
        Check.refused(p, "supportClosure on a decided motion", STATE,
                () -> p.supportClosure(1, 1));
        Check.refused(p, "supportClosure of a stranger at the end", ARGUMENT,
                () -> p.supportClosure(1, 0));
    }

    private static void halfIsNotEnough() {
        FrogParliament p = seated(4, 3, 1);
        Check.equal("supportClosure at half", false, p.supportClosure(0, 0));
        Check.equal("supportClosure above half", true, p.supportClosure(0, 2));
    }

    private static void laterFrogs() {
        FrogParliament p = seated(3, 3);
        Check.equal("supportClosure at half", false, p.supportClosure(0, 0));
        int late = p.addFrog(2, 9);
        Check.equal("a later frog is entitled", true, p.isEntitled(0, late));
        Check.equal("entitledWeight with a later frog", 15, p.entitledWeight(0));
        Check.equal("supportClosure below half now", false, p.supportClosure(0, 1));
        p.hop(late, 1);
        Check.equal("supportClosure of all", true, p.supportClosure(0, late));
        for (int frog = 0; frog < 9; frog++) {
            p.addFrog(0, 9);
        }
        Check.equal("entitledWeight of all", 96, p.entitledWeight(0));
        Check.equal("a closed list stays closed", true, p.isListClosed(0));
        Check.equal("closureWeight stays", 15, p.closureWeight(0));
    }

    private static void supportersInTheWater() {
        FrogParliament p = seated(4, 4, 1);
        p.supportClosure(0, 0);
        p.dive(0);
        Check.equal("closureWeight after a dive", 4, p.closureWeight(0));
        Check.refused(p, "supportClosure again from the water", UNSUPPORTED,
                () -> p.supportClosure(0, 0));
        Check.equal("supportClosure with one in the water", true, p.supportClosure(0, 2));
    }

    private static void croak() {
        FrogParliament p = seated(9, 2, 3, 1);
        p.signUp(0, 3);
        Check.refused(p, "croak while the list is open", STATE, () -> p.croak(0, 0, 1, true));
        p.supportClosure(0, 0);
        Check.equal("isListClosed", true, p.isListClosed(0));
        Check.refused(p, "croak while a frog is on the list", STATE,
                () -> p.croak(0, 0, 1, true));
        p.callNext(0);
        Check.equal("croak for", 81, p.croak(0, 0, 9, true));
        Check.refused(p, "croak again", UNSUPPORTED, () -> p.croak(0, 0, 1, true));
        Check.refused(p, "croak again on the other side", UNSUPPORTED,
                () -> p.croak(0, 0, 1, false));
        Check.equal("croak against", 2, p.croak(0, 1, 1, false));
        Check.equal("croak against too", 29, p.croak(0, 2, 9, false));
        p.dive(3);
        Check.refused(p, "croak from the water", UNSUPPORTED, () -> p.croak(0, 3, 1, true));
        p.hop(3, 5);
        Check.equal("croak for too", 86, p.croak(0, 3, 5, true));
        Check.equal("croaksFor", 86, p.croaksFor(0));
        Check.equal("croaksForByPonds", 86, p.croaksForByPonds(0));
        Check.equal("croaksAgainst", 29, p.croaksAgainst(0));
        p.addMotion(15);
        Check.equal("croaksFor of another motion", 0, p.croaksFor(1));
        Check.equal("croaksAgainst of another motion", 0, p.croaksAgainst(1));
        p.supportClosure(1, 0);
        Check.equal("croak on another motion", 9, p.croak(1, 0, 1, true));
        FrogParliament all = closed(9, 9, 9, 9, 9, 9, 9, 9, 9, 9, 9, 9);
        for (int frog = 0; frog < 12; frog++) {
            Check.equal("croak of all", 81 * (frog + 1), all.croak(0, frog, 9, true));
        }
        Check.equal("croaksForByPonds of all", 972, all.croaksForByPonds(0));
        Check.equal("strongestFrog of all", 0, all.strongestFrog(0));
    }

    private static void croakOrderOfExceptions() {
        FrogParliament p = seated(5, 1);
        p.addMotion(1);
        int[] wrong = {0, -1, 10, Integer.MIN_VALUE, Integer.MAX_VALUE};
        for (int loudness : wrong) {
            Check.refused(p, "croak(0, 0, " + loudness + ")", ARGUMENT,
                    () -> p.croak(0, 0, loudness, true));
            Check.refused(p, "croak(2, 0, " + loudness + ")", INDEX,
                    () -> p.croak(2, 0, loudness, true));
        }
        Check.refused(p, "croak of a stranger on an open list", ARGUMENT,
                () -> p.croak(1, 1, 1, true));
        p.dive(0);
        Check.refused(p, "croak from the water on an open list", STATE,
                () -> p.croak(0, 0, 1, true));
        p.hop(0, 0);
        p.supportClosure(1, 0);
        p.supportClosure(0, 0);
        p.croak(0, 0, 1, true);
        Check.refused(p, "croak again too loud", ARGUMENT, () -> p.croak(0, 0, 10, true));
        Check.refused(p, "croak of a stranger on a closed list", ARGUMENT,
                () -> p.croak(1, 1, 1, true));
        p.decide(0);
        Check.refused(p, "croak on a decided motion", STATE, () -> p.croak(0, 1, 1, true));
        Check.refused(p, "croak again on a decided motion", STATE, () -> p.croak(0, 0, 1, true));
        Check.refused(p, "croak too loud on a decided motion", ARGUMENT,
                () -> p.croak(0, 1, 0, true));
    }

    private static void decide() {
        FrogParliament p = seated(5, 5, 1);
        p.signUp(0, 0);
        Check.refused(p, "decide while the list is open", STATE, () -> p.decide(0));
        p.supportClosure(0, 1);
        p.supportClosure(0, 0);
        Check.refused(p, "decide while a frog is on the list", STATE, () -> p.decide(0));
        p.strike(0, 0);
        p.croak(0, 0, 4, true);
        p.croak(0, 1, 4, false);
        Check.equal("isDecided before", false, p.isDecided(0));
        Check.equal("isAdopted before", false, p.isAdopted(0));
        Check.equal("decide at a draw", false, p.decide(0));
        Check.equal("isDecided", true, p.isDecided(0));
        Check.equal("isAdopted", false, p.isAdopted(0));
        Check.refused(p, "decide again", STATE, () -> p.decide(0));
        p.undo();
        Check.equal("isDecided after undo", false, p.isDecided(0));
        p.croak(0, 2, 1, true);
        Check.equal("decide at one more", true, p.decide(0));
        Check.equal("isAdopted", true, p.isAdopted(0));
        FrogParliament silent = closed(1);
        Check.equal("decide without croaks", false, silent.decide(0));
        FrogParliament against = closed(1);
        against.croak(0, 0, 1, false);
        Check.equal("decide with croaks against", false, against.decide(0));
        FrogParliament open = seated(1);
        Check.refused(open, "decide on an empty open list", STATE, () -> open.decide(0));
    }

    private static void strongestFrog() {
        FrogParliament p = closed(2, 3, 6, 9, 1);
        Check.refused(p, "strongestFrog of no croaks", ELEMENT, () -> p.strongestFrog(0));
        p.croak(0, 4, 1, true);
        Check.equal("strongestFrog of one", 4, p.strongestFrog(0));
        p.croak(0, 2, 3, false);
        Check.equal("strongestFrog against", 2, p.strongestFrog(0));
        p.croak(0, 3, 2, true);
        Check.equal("strongestFrog of as strong ones is the first", 2, p.strongestFrog(0));
        p.croak(0, 0, 9, true);
        Check.equal("strongestFrog of three as strong", 2, p.strongestFrog(0));
        p.croak(0, 1, 7, false);
        Check.equal("strongestFrog", 1, p.strongestFrog(0));
        p.undo();
        Check.equal("strongestFrog when the strongest is undone", 2, p.strongestFrog(0));
        p.croak(0, 1, 7, false);
        p.decide(0);
        Check.equal("strongestFrog of a decided motion", 1, p.strongestFrog(0));
    }

    private static void shareFor() {
        FrogParliament p = closed(1, 2, 9, 9);
        Check.refused(p, "shareFor of no croaks", ARITHMETIC, () -> p.shareFor(0));
        p.croak(0, 0, 1, true);
        Check.equal("shareFor of one for", 1.0f, p.shareFor(0));
        p.croak(0, 1, 1, false);
        Check.equal("shareFor of a third", 1.0f / 3.0f, p.shareFor(0));
        p.croak(0, 2, 9, false);
        Check.equal("shareFor of 1 of 84", 1.0f / 84.0f, p.shareFor(0));
        FrogParliament against = closed(1);
        against.croak(0, 0, 9, false);
        Check.equal("shareFor of one against", 0.0f, against.shareFor(0));
    }

    private static void croaksByPonds() {
        FrogParliament p = closed(1, 2, 3, 4, 5, 6, 7, 8);
        int sum = 0;
        for (int frog = 0; frog < 8; frog++) {
            boolean isFor = frog != 5;
            sum += isFor ? 2 * (frog + 1) : 0;
            p.croak(0, frog, 2, isFor);
            Check.equal("croaksFor", sum, p.croaksFor(0));
            Check.equal("croaksForByPonds", sum, p.croaksForByPonds(0));
        }
        Check.equal("croaksAgainst", 12, p.croaksAgainst(0));
    }

    private static void adoptedCount() {
        FrogParliament p = seated(5);
        for (int motion = 1; motion < 6; motion++) {
            p.addMotion(1);
        }
        int adopted = 0;
        for (int motion = 0; motion < 6; motion++) {
            p.supportClosure(motion, 0);
            p.croak(motion, 0, 1, motion % 3 != 1);
            p.decide(motion);
            adopted += motion % 3 != 1 ? 1 : 0;
            Check.equal("adoptedCount", adopted, p.adoptedCount());
        }
    }

    private static void wrongMotionsAndFrogs() {
        FrogParliament p = closed(1, 2);
        for (int i : WRONG) {
            Check.refused(p, "supportClosure(wrong, 0)", INDEX, () -> p.supportClosure(i, 0));
            Check.refused(p, "supportClosure(0, wrong)", INDEX, () -> p.supportClosure(0, i));
            Check.refused(p, "croak(wrong, 0)", INDEX, () -> p.croak(i, 0, 1, true));
            Check.refused(p, "croak(0, wrong)", INDEX, () -> p.croak(0, i, 0, true));
        }
        int[] wrong = {-1, 1, 6, Integer.MIN_VALUE, Integer.MAX_VALUE};
        for (int i : wrong) {
            Check.refused(p, "isListClosed(wrong)", INDEX, () -> p.isListClosed(i));
            Check.refused(p, "closureWeight(wrong)", INDEX, () -> p.closureWeight(i));
            Check.refused(p, "entitledWeight(wrong)", INDEX, () -> p.entitledWeight(i));
            Check.refused(p, "decide(wrong)", INDEX, () -> p.decide(i));
            Check.refused(p, "isDecided(wrong)", INDEX, () -> p.isDecided(i));
            Check.refused(p, "isAdopted(wrong)", INDEX, () -> p.isAdopted(i));
            Check.refused(p, "croaksFor(wrong)", INDEX, () -> p.croaksFor(i));
            Check.refused(p, "croaksForByPonds(wrong)", INDEX, () -> p.croaksForByPonds(i));
            Check.refused(p, "croaksAgainst(wrong)", INDEX, () -> p.croaksAgainst(i));
            Check.refused(p, "strongestFrog(wrong)", INDEX, () -> p.strongestFrog(i));
            Check.refused(p, "shareFor(wrong)", INDEX, () -> p.shareFor(i));
        }
        Check.refused(p, "supportClosure(1, 0)", INDEX, () -> p.supportClosure(1, 0));
        Check.refused(p, "supportClosure(0, 2)", INDEX, () -> p.supportClosure(0, 2));
        Check.refused(p, "croak(1, 0)", INDEX, () -> p.croak(1, 0, 1, true));
        Check.refused(p, "croak(0, 2)", INDEX, () -> p.croak(0, 2, 1, true));
    }

    private static void isConsistent() {
        FrogParliament p = seated(1, 2, 3, 4, 5, 6, 7, 8, 9, 1, 2, 3);
        p.addMotion(3);
        for (int frog = 0; frog < 12; frog++) {
            p.signUp(0, frog);
            Check.equal("isConsistent", true, p.isConsistent());
        }
        p.dive(3);
        p.signUp(1, 1);
        while (p.listLength(0) > 2) {
            p.callNext(0);
            Check.equal("isConsistent", true, p.isConsistent());
        }
        p.callNext(1);
        Check.equal("isConsistent", true, p.isConsistent());
    }
}
