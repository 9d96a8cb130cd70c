/** Promises 44 to 47. */
public final class CommandsTest {
    private static final Class<?> ARGUMENT = IllegalArgumentException.class;
    private static final Class<?> STATE = IllegalStateException.class;
    private static final Class<?> ELEMENT = java.util.NoSuchElementException.class;

    public static void main(String[] args) {
        append();
        bufferOfSixty();
        everyCommand();
        numbers();
        otherMotions();
        errorPositions();
        textsOfSixty();
        failedCommands();
        everyCommandFails();
        failuresThatAreNone();
        errorAndFailureApart();
        Check.end("CommandsTest");
    }

    private static void type(FrogParliament p, String text) {
        for (int i = 0; i < text.length(); i++) {
            Check.equal("append", i + 1, p.append(text.charAt(i)));
        }
    }

    private static void runs(FrogParliament p, String text, int commands) {
        type(p, text);
        Check.equal("run of " + text, commands, Observed.answer(() -> p.run()));
    }

    private static void isNoText(FrogParliament p, String text, int position) {
        String before = Observed.state(p);
        type(p, text);
        Check.equal("run of " + text, ARGUMENT.getSimpleName(), Observed.answer(() -> p.run()));
        Check.equal("errorPosition of " + text, position, Observed.answer(() -> p.errorPosition()));
        Check.equal("the state after " + text, before, Observed.state(p));
    }

    private static void fails(FrogParliament p, String text, int command) {
        String before = Observed.state(p);
        type(p, text);
        Check.equal("run of " + text, STATE.getSimpleName(), Observed.answer(() -> p.run()));
        Check.equal("failedCommand of " + text, command, Observed.answer(() -> p.failedCommand()));
        Check.equal("the state after " + text, before, Observed.state(p));
    }

    private static void append() {
        FrogParliament p = new FrogParliament();
        char[] wrong = {0, 1, 9, 10, 31, 127, 128, 255, 256, 0x7fff, 0xffff};
        for (char character : wrong) {
            Check.refused(p, "append(" + (int) character + ")", ARGUMENT,
                    () -> p.append(character));
        }
        Check.equal("append(32)", 1, p.append(' '));
        Check.equal("append(126)", 2, p.append('~'));
        Check.refused(p, "append(127)", ARGUMENT, () -> p.append((char) 127));
        Check.equal("append after a wrong one", 3, p.append('a'));
    }

    private static void bufferOfSixty() {
        FrogParliament p = new FrogParliament();
        for (int length = 1; length <= 60; length++) {
            Check.equal("append", length, p.append('p'));
        }
        Check.refused(p, "append as the 61st", STATE, () -> p.append('p'));
        Check.refused(p, "append(31) as the 61st", ARGUMENT, () -> p.append((char) 31));
        Check.equal("run of a full text", ARGUMENT.getSimpleName(),
                Observed.answer(() -> p.run()));
        Check.equal("append after the run", 1, p.append('p'));
    }

    private static void everyCommand() {
        FrogParliament p = new FrogParliament();
        runs(p, "frog 05", 1);
        runs(p, "frog 39;frog 11;frog 24", 3);
        Check.equal("frogCount", 4, p.frogCount());
        Check.equal("pondOf(1)", 3, p.pondOf(1));
        Check.equal("weightOf(1)", 9, p.weightOf(1));
        runs(p, "pad 4;pad 1", 2);
        Check.equal("padCount", 2, p.padCount());
        runs(p, "hop 0 0;hop 1 0;hop 02 0;hop 3 1;dive 03;dive 2;hop 2 1", 7);
        Check.equal("padOf(2)", 1, p.padOf(2));
        Check.equal("frogsOn(0)", 2, p.frogsOn(0));
        runs(p, "motion 15;motion 2;motion 09", 3);
        Check.equal("motionCount", 3, p.motionCount());
        Check.equal("isEntitled(2, 1)", true, p.isEntitled(2, 1));
        runs(p, "list 0 3;list 0 0;list 0 01;list 1 2;strike 0 00", 5);
        Check.equal("listLength(0)", 2, p.listLength(0));
        runs(p, "call 0;call 0;call 1", 3);
        Check.equal("missedTotal", 1, p.missedTotal());
        Check.equal("speeches(1)", 1, p.speeches(1));
        Check.equal("speeches(2)", 1, p.speeches(2));
        runs(p, "end 0 0;end 0 01", 2);
        Check.equal("isListClosed(0)", true, p.isListClosed(0));
        runs(p, "croak 0 0-9;croak 0 01+5;croak 0 2+1", 3);
        Check.equal("croaksFor(0)", 46, p.croaksFor(0));
        Check.equal("croaksAgainst(0)", 45, p.croaksAgainst(0));
        Check.equal("isDecided(0)", false, p.isDecided(0));
        runs(p, "decide 0", 1);
        Check.equal("isAdopted(0)", true, p.isAdopted(0));
        Check.refused(p, "errorPosition of no error", ELEMENT, () -> p.errorPosition());
        Check.refused(p, "failedCommand of no failure", ELEMENT, () -> p.failedCommand());
    }

    private static void numbers() {
        FrogParliament p = new FrogParliament();
        runs(p, "pad 4;pad 4;pad 4", 3);
        for (int frog = 0; frog < 12; frog++) {
            runs(p, "frog 09", 1);
            runs(p, "hop " + frog + " " + frog / 4, 1);
            Check.equal("padOf", frog / 4, p.padOf(frog));
        }
        runs(p, "motion 01;list 0 11;list 0 10;strike 0 10", 4);
        Check.equal("nextFrog", 11, p.nextFrog(0));
        runs(p, "call 0;end 0 11;end 0 10;dive 11;dive 09", 5);
        Check.equal("closureWeight", 18, p.closureWeight(0));
        Check.equal("frogsOn(2)", 2, p.frogsOn(2));
        for (int frog = 0; frog < 5; frog++) {
            p.supportClosure(0, frog);
        }
        runs(p, "croak 0 10+9", 1);
        Check.equal("croaksFor", 81, p.croaksFor(0));
    }

    private static void otherMotions() {
        FrogParliament p = new FrogParliament();
        runs(p, "frog 01;frog 02;pad 2;hop 0 0;hop 1 0;motion 1;motion 1", 7);
        runs(p, "list 1 0;list 1 1;strike 1 0;call 1;end 1 1;croak 1 1+3", 6);
        Check.equal("speechesOn(0)", 0, p.speechesOn(0));
        Check.equal("speechesOn(1)", 1, p.speechesOn(1));
        Check.equal("croaksFor(1)", 6, p.croaksFor(1));
        fails(p, "croak 1 0-9;decide 0", 1);
        runs(p, "croak 1 0-7;decide 1", 2);
        Check.equal("isAdopted(1)", false, p.isAdopted(1));
        Check.equal("isDecided(1)", true, p.isDecided(1));
        Check.equal("isDecided(0)", false, p.isDecided(0));
        fails(p, "decide 2", 0);
        runs(p, "end 0 1;decide 0", 2);
        Check.equal("isDecided(0)", true, p.isDecided(0));
    }

    private static void errorPositions() {
        FrogParliament p = new FrogParliament();
        isNoText(p, "", 0);
        isNoText(p, " ", 0);
        isNoText(p, ";", 0);
        isNoText(p, "x", 0);
        isNoText(p, "Pad 1", 0);
        isNoText(p, "paf 1", 2);
        isNoText(p, "pad1", 3);
        isNoText(p, "pad", 3);
        isNoText(p, "pad ", 4);
        isNoText(p, "pad  1", 4);
        isNoText(p, "pad x", 4);
        isNoText(p, "pad 12", 5);
        isNoText(p, "pad 1 ", 5);
        isNoText(p, "pad 1;", 6);
        isNoText(p, "pad 1;;", 6);
        isNoText(p, "pad 1; pad 1", 6);
        isNoText(p, "pad 1;pad 1,", 11);
        isNoText(p, "frog 1", 6);
        isNoText(p, "frog 1;", 6);
        isNoText(p, "frog 123", 7);
        isNoText(p, "frog 1 2", 6);
        isNoText(p, "hop 1", 5);
        isNoText(p, "hop 12", 6);
        isNoText(p, "hop 123", 6);
        isNoText(p, "hop 1 23", 7);
        isNoText(p, "hop 12 3x", 8);
        isNoText(p, "hop  1", 4);
        isNoText(p, "dive 123", 7);
        isNoText(p, "dive 1 ", 6);
        isNoText(p, "dive -1", 5);
        isNoText(p, "motion 160", 9);
        isNoText(p, "motions", 6);
        isNoText(p, "list 12", 6);
        isNoText(p, "list 1 234", 9);
        isNoText(p, "strike 1", 8);
        isNoText(p, "strike 1 x", 9);
        isNoText(p, "call 11", 6);
        isNoText(p, "cal", 3);
        isNoText(p, "cale", 3);
        isNoText(p, "c", 1);
        isNoText(p, "cx", 1);
        isNoText(p, "crall 0", 2);
        isNoText(p, "caoak 0", 2);
        isNoText(p, "end 1", 5);
        isNoText(p, "end 1 ", 6);
        isNoText(p, "croak 0 0", 9);
        isNoText(p, "croak 0 0+", 10);
        isNoText(p, "croak 0 0-", 10);
        isNoText(p, "croak 0 0*1", 9);
        isNoText(p, "croak 0 00", 10);
        isNoText(p, "croak 0 000+1", 10);
        isNoText(p, "croak 0 +1", 8);
        isNoText(p, "croak 0 0+12", 11);
        isNoText(p, "croak 0 0+-1", 10);
        isNoText(p, "croak 00 1+1", 7);
        isNoText(p, "d", 1);
        isNoText(p, "da", 1);
        isNoText(p, "dec", 3);
        isNoText(p, "deive 0", 2);
        isNoText(p, "dicide 0", 2);
        isNoText(p, "decide 12", 8);
        isNoText(p, "decide", 6);
        isNoText(p, "pad 1;decide x", 13);
        isNoText(p, "pad /", 4);
        isNoText(p, "pad :", 4);
        Check.equal("padCount after errors", 0, p.padCount());
    }

    private static void textsOfSixty() {
        FrogParliament p = new FrogParliament();
        String tenPads = "pad 1;pad 1;pad 1;pad 1;pad 1;pad 1;pad 1;pad 1;pad 1;pad 1";
        isNoText(p, tenPads + ";", 60);
        fails(p, tenPads, 6);
        isNoText(p, tenPads + "p", 59);
        isNoText(p, tenPads.substring(0, 48) + "pad 1;pad 12", 59);
        runs(p, "frog 01;frog 02;frog 03;frog 04;frog 05;frog 06;pad 4;pad 1", 8);
        runs(p, "hop 0 0;hop 1 0;hop 2 0;hop 3 0;hop 4 1;dive 3;hop 5 0;pad 1", 8);
        Check.equal("frogsOn(0) after a full text", 4, p.frogsOn(0));
        Check.equal("padCount after a full text", 3, p.padCount());
        FrogParliament ten = new FrogParliament();
        ten.addFrog(0, 1);
        ten.addPad(1);
        ten.addMotion(1);
        runs(ten, "hop 0 0;dive 0;hop 0 0;dive 0;hop 0 0;list 0 0;call 0;pad 1", 8);
        runs(ten, "pad 1;pad 1;pad 1;dive 0;pad 1", 5);
    }

    private static void failedCommands() {
        FrogParliament p = new FrogParliament();
        fails(p, "dive 0", 0);
        fails(p, "frog 01;dive 0", 1);
        fails(p, "frog 01;pad 1;hop 0 0;dive 0;dive 0;dive 0", 4);
        Check.equal("frogCount after failures", 0, p.frogCount());
        Check.refused(p, "undo after failures", STATE, () -> p.undo());
        runs(p, "frog 01;pad 1", 2);
        fails(p, "hop 0 0;frog 41", 1);
        Check.equal("sittingCount after a failure", 0, p.sittingCount());
        Check.equal("undo of a run", 0, p.undo());
        Check.equal("frogCount after undo", 0, p.frogCount());
    }

    private static void everyCommandFails() {
        FrogParliament p = new FrogParliament();
        String[] early = {"frog 40", "frog 41", "frog 00", "pad 0", "pad 5", "hop 0 0", "dive 0",
            "motion 0", "motion 16", "motion 99", "list 0 0", "strike 0 0", "call 0", "end 0 0",
            "croak 0 0+1", "decide 0"};
        for (String text : early) {
            fails(p, text, 0);
        }
        runs(p, "frog 01;frog 11;pad 1;motion 1;hop 0 0;list 0 0", 6);
        String[] late = {"hop 0 0", "hop 1 0", "hop 2 0", "hop 99 0", "dive 1", "list 0 0",
            "list 0 1", "list 1 0", "strike 0 1", "end 0 1", "croak 0 0+0", "croak 0 0-1",
            "decide 0", "call 9"};
        for (String text : late) {
            fails(p, "pad 1;" + text, 1);
        }
        runs(p, "call 0;end 0 0;croak 0 0+1;decide 0", 4);
        String[] last = {"list 0 0", "end 0 0", "croak 0 0+1", "croak 0 0-1", "decide 0", "call 0"};
        for (String text : last) {
            fails(p, text, 0);
        }
        runs(p, "pad 1;pad 1;pad 1;pad 1;pad 1", 5);
        fails(p, "pad 1", 0);
        runs(p, "motion 1;motion 1;motion 1;motion 1;motion 1", 5);
        fails(p, "motion 1", 0);
        runs(p, "frog 01;frog 01;frog 01;frog 01;frog 01", 5);
        fails(p, "frog 01;frog 01;frog 01;frog 01;frog 01;frog 01", 5);
    }

    private static void failuresThatAreNone() {
        FrogParliament p = new FrogParliament();
        runs(p, "frog 01;frog 01;pad 2;motion 1;list 0 0;call 0", 6);
        Check.equal("missedTotal of a run", 1, p.missedTotal());
        runs(p, "hop 0 0;hop 1 0;end 0 0;end 0 0", 4);
        Check.equal("isListClosed of a run", false, p.isListClosed(0));
        runs(p, "end 0 1;croak 0 0-1;decide 0", 3);
        Check.equal("isDecided of a run", true, p.isDecided(0));
        Check.equal("isAdopted of a run", false, p.isAdopted(0));
    }

    private static void errorAndFailureApart() {
        FrogParliament p = new FrogParliament();
        isNoText(p, "pad x", 4);
        Check.refused(p, "failedCommand after an error", ELEMENT, () -> p.failedCommand());
        fails(p, "pad 1;pad 0", 1);
        Check.equal("errorPosition after a failure", 4, p.errorPosition());
        isNoText(p, "pad", 3);
        Check.equal("failedCommand after an error", 1, p.failedCommand());
        runs(p, "pad 1", 1);
        Check.equal("errorPosition after a run", 3, p.errorPosition());
        Check.equal("failedCommand after a run", 1, p.failedCommand());
        FrogParliament other = new FrogParliament();
        fails(other, "pad 0", 0);
        Check.refused(other, "errorPosition after a failure", ELEMENT, () -> other.errorPosition());
    }
}
