/** Promises 15 to 27, 41, 42, 48 and 49. */
public final class MotionsAndListsTest {
    private static final Class<?> INDEX = IndexOutOfBoundsException.class;
    private static final Class<?> ARGUMENT = IllegalArgumentException.class;
    private static final Class<?> STATE = IllegalStateException.class;
    private static final Class<?> UNSUPPORTED = UnsupportedOperationException.class;
    private static final Class<?> ELEMENT = java.util.NoSuchElementException.class;
    private static final int[] WRONG = {-1, 6, 12, Integer.MIN_VALUE, Integer.MAX_VALUE};

    public static void main(String[] args) {
        addMotion();
        isEntitled();
        signUp();
        strike();
        callNext();
        orderOfCalls();
        speechesAcrossMotions();
        frogAtRank();
        wrongMotionsAndFrogs();
        describeList();
        lineAt();
        Check.end("MotionsAndListsTest");
    }

    /** Frogs of one pond on pads, and one motion of this pond. */
    private static FrogParliament seated(int frogs) {
        FrogParliament p = new FrogParliament();
        for (int pad = 0; pad < 6; pad++) {
            p.addPad(2);
        }
        for (int frog = 0; frog < frogs; frog++) {
            p.addFrog(0, 1);
            p.hop(frog, frog / 2);
        }
        p.addMotion(1);
        return p;
    }

    private static String list(FrogParliament p, int motion) {
        int length = p.describeList(motion);
        String line = Observed.line(p);
        Check.equal("describeList", line.length(), length);
        return line;
    }

    private static void addMotion() {
        FrogParliament p = new FrogParliament();
        int[] wrong = {0, -1, 16, Integer.MIN_VALUE, Integer.MAX_VALUE};
        for (int mask : wrong) {
            Check.refused(p, "addMotion(" + mask + ")", ARGUMENT, () -> p.addMotion(mask));
        }
        int[] masks = {1, 15, 8, 4, 2, 7};
        for (int motion = 0; motion < 6; motion++) {
            Check.equal("addMotion", motion, p.addMotion(masks[motion]));
            Check.equal("motionCount", motion + 1, p.motionCount());
            Check.equal("a new motion is decided", false, p.isDecided(motion));
            Check.equal("a new list is closed", false, p.isListClosed(motion));
            Check.equal("a new list's length", 0, p.listLength(motion));
        }
        Check.refused(p, "addMotion as the 7th", STATE, () -> p.addMotion(1));
        Check.refused(p, "addMotion(0) as the 7th", ARGUMENT, () -> p.addMotion(0));
    }

    private static void isEntitled() {
        int[] masks = {1, 2, 4, 8, 15, 6};
        FrogParliament p = new FrogParliament();
        for (int mask : masks) {
            p.addMotion(mask);
        }
        for (int pond = 0; pond < 4; pond++) {
            p.addFrog(pond, 1);
            for (int motion = 0; motion < masks.length; motion++) {
                Check.equal("isEntitled", (masks[motion] & (1 << pond)) != 0,
                        p.isEntitled(motion, pond));
            }
        }
    }

    private static void signUp() {
        FrogParliament p = new FrogParliament();
        p.addMotion(2);
        p.addFrog(1, 1);
        p.addFrog(0, 1);
        p.addFrog(1, 1);
        p.addPad(2);
        Check.equal("signUp from the water", 1, p.signUp(0, 0));
        Check.refused(p, "signUp twice", UNSUPPORTED, () -> p.signUp(0, 0));
        Check.refused(p, "signUp of a frog that is not entitled", ARGUMENT, () -> p.signUp(0, 1));
        Check.equal("signUp of another", 2, p.signUp(0, 2));
        p.strike(0, 0);
        Check.equal("signUp again", 2, p.signUp(0, 0));
        Check.equal("the list", "2~,0~", list(p, 0));
        p.hop(0, 0);
        p.hop(2, 0);
        p.supportClosure(0, 0);
        Check.equal("supportClosure", true, p.supportClosure(0, 2));
        Check.refused(p, "signUp on a closed list", STATE, () -> p.signUp(0, 0));
        Check.refused(p, "signUp of a stranger on a closed list", ARGUMENT, () -> p.signUp(0, 1));
        p.callNext(0);
        p.callNext(0);
        Check.refused(p, "signUp on an empty closed list", STATE, () -> p.signUp(0, 0));
        p.decide(0);
        Check.refused(p, "signUp on a decided motion", STATE, () -> p.signUp(0, 0));
        Check.refused(p, "signUp of a stranger at the end", ARGUMENT, () -> p.signUp(0, 1));
        FrogParliament full = seated(12);
        for (int frog = 0; frog < 12; frog++) {
            Check.equal("signUp of all", frog + 1, full.signUp(0, 11 - frog));
        }
        Check.equal("the full list", "11,10,9,8,7,6,5,4,3,2,1,0", list(full, 0));
        for (int frog = 0; frog < 12; frog++) {
            Check.equal("frogsBefore on the full list", 11 - frog, full.frogsBefore(0, frog));
        }
    }

    private static void strike() {
        FrogParliament p = seated(4);
        Check.refused(p, "strike off an empty list", ELEMENT, () -> p.strike(0, 0));
        for (int frog = 0; frog < 4; frog++) {
            p.signUp(0, frog);
        }
        Check.equal("strike in the middle", 3, p.strike(0, 1));
        Check.refused(p, "strike again", ELEMENT, () -> p.strike(0, 1));
        Check.equal("the list", "0,2,3", list(p, 0));
        Check.equal("strike at the end", 2, p.strike(0, 3));
        Check.equal("strike at the start", 1, p.strike(0, 0));
        p.supportClosure(0, 0);
        p.supportClosure(0, 1);
        Check.equal("supportClosure", true, p.supportClosure(0, 2));
        Check.equal("strike off a closed list", 0, p.strike(0, 2));
        Check.equal("speechTotal after strikes", 0, p.speechTotal());
        Check.equal("missedTotal after strikes", 0, p.missedTotal());
    }

    private static void callNext() {
        FrogParliament p = seated(2);
        p.addFrog(0, 1);
        Check.refused(p, "callNext on an empty list", ELEMENT, () -> p.callNext(0));
        Check.refused(p, "nextFrog of an empty list", ELEMENT, () -> p.nextFrog(0));
        Check.refused(p, "nextFrogByScan of an empty list", ELEMENT, () -> p.nextFrogByScan(0));
        p.signUp(0, 2);
        p.signUp(0, 0);
        Check.equal("callNext of a frog in the water", false, p.callNext(0));
        Check.equal("missedTotal", 1, p.missedTotal());
        Check.equal("speechTotal", 0, p.speechTotal());
        Check.equal("speeches of one that missed", 0, p.speeches(2));
        Check.equal("listLength after a missed turn", 1, p.listLength(0));
        Check.equal("callNext of a frog on a pad", true, p.callNext(0));
        Check.equal("missedTotal", 1, p.missedTotal());
        Check.equal("speechTotal", 1, p.speechTotal());
        Check.equal("speeches", 1, p.speeches(0));
        Check.equal("speechesOn", 1, p.speechesOn(0));
        Check.refused(p, "callNext on a list that is done", ELEMENT, () -> p.callNext(0));
    }

    private static void orderOfCalls() {
        FrogParliament p = seated(5);
        for (int speech = 0; speech < 3; speech++) {
            for (int frog = 0; frog <= speech; frog++) {
                p.signUp(0, frog);
                p.callNext(0);
            }
        }
        for (int frog = 0; frog < 5; frog++) {
            p.signUp(0, frog);
        }
        Check.equal("the list by speeches", "3,4,2,1,0", list(p, 0));
        int[] before = {4, 3, 2, 0, 1};
        for (int frog = 0; frog < 5; frog++) {
            Check.equal("frogsBefore", before[frog], p.frogsBefore(0, frog));
        }
        int[] order = {3, 4, 2, 1, 0};
        for (int frog : order) {
            Check.equal("nextFrog", frog, p.nextFrog(0));
            Check.equal("nextFrogByScan", frog, p.nextFrogByScan(0));
            p.callNext(0);
            Check.refused(p, "frogsBefore of a called frog", ELEMENT,
                    () -> p.frogsBefore(0, frog));
        }
        p.signUp(0, 0);
        p.signUp(0, 4);
        p.strike(0, 4);
        Check.equal("frogsBefore when another was struck", 0, p.frogsBefore(0, 0));
    }

    private static void speechesAcrossMotions() {
        FrogParliament p = seated(2);
        p.addMotion(1);
        p.signUp(0, 0);
        p.signUp(0, 1);
        p.signUp(1, 0);
        Check.equal("nextFrog before a speech elsewhere", 0, p.nextFrog(0));
        p.callNext(1);
        Check.equal("nextFrog after a speech elsewhere", 1, p.nextFrog(0));
        Check.equal("nextFrogByScan after a speech elsewhere", 1, p.nextFrogByScan(0));
        Check.equal("the list after a speech elsewhere", "1,0", list(p, 0));
        Check.equal("speechesOn(0)", 0, p.speechesOn(0));
        Check.equal("speechesOn(1)", 1, p.speechesOn(1));
        p.callNext(0);
        p.callNext(0);
        Check.equal("speechesOn(0)", 2, p.speechesOn(0));
        Check.equal("speeches(0)", 2, p.speeches(0));
        Check.equal("speechTotal", 3, p.speechTotal());
        Check.equal("isConsistent", true, p.isConsistent());
    }

    private static void frogAtRank() {
        FrogParliament p = new FrogParliament();
        Check.refused(p, "frogAtRank(0) without frogs", ELEMENT, () -> p.frogAtRank(0));
        p.addPad(4);
        p.addMotion(15);
        int[] weights = {3, 9, 3, 1, 9};
        for (int weight : weights) {
            p.addFrog(0, weight);
        }
        checkRanks(p, 1, 4, 0, 2, 3);
        p.hop(3, 0);
        p.signUp(0, 3);
        p.callNext(0);
        checkRanks(p, 3, 1, 4, 0, 2);
        p.hop(2, 0);
        for (int speech = 0; speech < 2; speech++) {
            p.signUp(0, 2);
            p.callNext(0);
        }
        checkRanks(p, 2, 3, 1, 4, 0);
        Check.refused(p, "frogAtRank(5)", ELEMENT, () -> p.frogAtRank(5));
        for (int rank : WRONG) {
            Check.refused(p, "frogAtRank(wrong)", ELEMENT, () -> p.frogAtRank(rank));
        }
    }

    private static void checkRanks(FrogParliament p, int... frogs) {
        for (int rank = 0; rank < frogs.length; rank++) {
            Check.equal("frogAtRank(" + rank + ")", frogs[rank], p.frogAtRank(rank));
        }
    }

    private static void wrongMotionsAndFrogs() {
        FrogParliament p = seated(2);
        p.signUp(0, 0);
        for (int i : WRONG) {
            Check.refused(p, "isEntitled(wrong, 0)", INDEX, () -> p.isEntitled(i, 0));
            Check.refused(p, "isEntitled(0, wrong)", INDEX, () -> p.isEntitled(0, i));
            Check.refused(p, "signUp(wrong, 0)", INDEX, () -> p.signUp(i, 0));
            Check.refused(p, "signUp(0, wrong)", INDEX, () -> p.signUp(0, i));
            Check.refused(p, "strike(wrong, 0)", INDEX, () -> p.strike(i, 0));
            Check.refused(p, "strike(0, wrong)", INDEX, () -> p.strike(0, i));
            Check.refused(p, "callNext(wrong)", INDEX, () -> p.callNext(i));
            Check.refused(p, "listLength(wrong)", INDEX, () -> p.listLength(i));
            Check.refused(p, "nextFrog(wrong)", INDEX, () -> p.nextFrog(i));
            Check.refused(p, "nextFrogByScan(wrong)", INDEX, () -> p.nextFrogByScan(i));
            Check.refused(p, "frogsBefore(wrong, 0)", INDEX, () -> p.frogsBefore(i, 0));
            Check.refused(p, "frogsBefore(0, wrong)", INDEX, () -> p.frogsBefore(0, i));
            Check.refused(p, "speeches(wrong)", INDEX, () -> p.speeches(i));
            Check.refused(p, "speechesOn(wrong)", INDEX, () -> p.speechesOn(i));
            Check.refused(p, "describeList(wrong)", INDEX, () -> p.describeList(i));
        }
        Check.refused(p, "isEntitled(1, 0)", INDEX, () -> p.isEntitled(1, 0));
        Check.refused(p, "isEntitled(0, 2)", INDEX, () -> p.isEntitled(0, 2));
        Check.refused(p, "signUp(1, 0)", INDEX, () -> p.signUp(1, 0));
        Check.refused(p, "signUp(0, 2)", INDEX, () -> p.signUp(0, 2));
        Check.refused(p, "strike(1, 0)", INDEX, () -> p.strike(1, 0));
        Check.refused(p, "strike(0, 2)", INDEX, () -> p.strike(0, 2));
        Check.refused(p, "callNext(1)", INDEX, () -> p.callNext(1));
        Check.refused(p, "nextFrog(1)", INDEX, () -> p.nextFrog(1));
        Check.refused(p, "frogsBefore(0, 2)", INDEX, () -> p.frogsBefore(0, 2));
        Check.refused(p, "frogsBefore(0, 1)", ELEMENT, () -> p.frogsBefore(0, 1));
        Check.refused(p, "speeches(2)", INDEX, () -> p.speeches(2));
        Check.refused(p, "speechesOn(1)", INDEX, () -> p.speechesOn(1));
    }

    private static void describeList() {
        FrogParliament p = seated(12);
        Check.equal("an empty open list", "", list(p, 0));
        p.signUp(0, 3);
        Check.equal("a list of one", "3", list(p, 0));
        p.signUp(0, 0);
        p.signUp(0, 11);
        p.dive(0);
        Check.equal("a list with one in the water", "3,0~,11", list(p, 0));
        for (int frog = 1; frog < 8; frog++) {
            p.supportClosure(0, frog);
        }
        Check.equal("the example of the document", "3,0~,11|", list(p, 0));
        p.dive(11);
        Check.equal("a number of two digits in the water", "3,0~,11~|", list(p, 0));
        for (int turn = 0; turn < 3; turn++) {
            p.callNext(0);
        }
        Check.equal("an empty closed list", "|", list(p, 0));
        FrogParliament full = seated(12);
        for (int frog = 0; frog < 12; frog++) {
            full.signUp(0, frog);
        }
        for (int frog = 0; frog < 7; frog++) {
            Check.equal("supportClosure", frog == 6, full.supportClosure(0, frog));
        }
        for (int frog = 0; frog < 12; frog++) {
            full.dive(frog);
        }
        Check.equal("the longest list", "0~,1~,2~,3~,4~,5~,6~,7~,8~,9~,10~,11~|",
                list(full, 0));
    }

    private static void lineAt() {
        FrogParliament p = seated(2);
        int[] wrong = {-1, 0, 1, Integer.MIN_VALUE, Integer.MAX_VALUE};
        for (int index : wrong) {
            Check.refused(p, "lineAt of an empty line", INDEX, () -> p.lineAt(index));
        }
        p.signUp(0, 1);
        p.signUp(0, 0);
        Check.equal("the line before describeList", "", Observed.line(p));
        p.describeList(0);
        Check.equal("lineAt(0)", '1', p.lineAt(0));
        Check.equal("lineAt(1)", ',', p.lineAt(1));
        Check.equal("lineAt(2)", '0', p.lineAt(2));
        Check.refused(p, "lineAt(3)", INDEX, () -> p.lineAt(3));
        Check.refused(p, "lineAt(-1)", INDEX, () -> p.lineAt(-1));
        Check.refused(p, "describeList(1)", INDEX, () -> p.describeList(1));
        p.callNext(0);
        Check.equal("the line after a call", "1,0", Observed.line(p));
        p.describeList(0);
        Check.equal("the line replaced", "0", Observed.line(p));
        Check.refused(p, "lineAt(1) of the shorter line", INDEX, () -> p.lineAt(1));
    }
}
