/** The sentences on command texts: terms, and promises 44 to 47. */
final class CommandSentences {
    /** Every command as the document's form writes it out; # stands for a digit. */
    private static final String[] SHAPES = {"frog ##", "pad #", "hop # #", "hop ## #", "dive #",
        "dive ##", "motion #", "motion ##", "list # #", "list # ##", "strike # #", "strike # ##",
        "call #", "end # #", "end # ##", "croak # #+#", "croak # ##+#", "croak # #-#",
        "croak # ##-#", "decide #"};
    private static final String[] KEYWORDS = {"frog", "pad", "hop", "dive", "motion", "list",
        "strike", "call", "end", "croak", "decide"};
    private static final int MAX_TEXT = 60;
    private static final String NO_TEXT = "IllegalArgumentException";
    private static final String FAILS = "IllegalStateException";

    private CommandSentences() {
    }

    static void test(Sentences document) {
        form(document);
        errors(document);
        append(document);
        run(document);
        positions(document);
    }

    private static void form(Sentences document) {
        document.holds(0, "The command text is a buffer of at most 60 characters.",
                CommandSentences::bufferOfSixty);
        document.holds(0, "A command text has the following form, where braces mean zero or more"
                + " repetitions, brackets an optional part, and a vertical bar separates"
                + " alternatives:", CommandSentences::formOfTexts);
        document.holds(0, "The commands call addFrog(), addPad(), hop(), dive(), addMotion(),"
                + " signUp(), strike(), callNext(), supportClosure(), croak() and decide(), with"
                + " the numbers of the command as parameters in their order; \"+\" and \"-\" stand"
                + " for croaks for and against the motion, and the digit behind them is the"
                + " loudness.", CommandSentences::commandsAreCalls);
        document.holds(0, "A turn that is missed, a list that stays open and a motion that is"
                + " rejected do not fail.", CommandSentences::noFailures);
    }

    private static void errors(Sentences document) {
        document.holds(0, "The error position of a text is the index of the first character that"
                + " cannot continue any command text.", CommandSentences::firstWrongCharacter);
        document.holds(0, "If every character can, the error position is the length of the text.",
                CommandSentences::textsThatBreakOff);
        document.holds(0, "Keywords are matched character by character.",
                CommandSentences::keywords);
    }

    private static void append(Sentences document) {
        document.holds(44, "Appends a character to the command text.",
                CommandSentences::appendedCharacters);
        document.holds(44, "Returns the length of the command text after the call.",
                CommandSentences::lengths);
        document.holds(44, "Throws `IllegalArgumentException` if the code of the character is not"
                + " from 32 to 126", CommandSentences::wrongCharacters);
        document.holds(44, "Throws `IllegalStateException` if the command text has 60 characters",
                CommandSentences::fullText);
    }

    private static void run(Sentences document) {
        document.holds(45, "Parses the command text and carries out its commands in order.",
                CommandSentences::inOrder);
        document.holds(45, "Either all commands are carried out, or none.",
                CommandSentences::allOrNone);
        document.holds(45, "The command text is empty after the call, also if an exception is"
                + " thrown.", CommandSentences::emptyAfterRun);
        document.holds(45, "The first command whose method would throw an exception is the failed"
                + " command.", CommandSentences::firstFailure);
        document.holds(45, "Returns the number of commands.", CommandSentences::numbersOfCommands);
        document.holds(45, "Throws `IllegalArgumentException` if the text is not a command text;"
                + " the error position is set and the failed command is left as it is",
                CommandSentences::noCommandText);
        document.holds(45, "Throws `IllegalStateException` if a command fails; the failed command"
                + " is set and the error position is left as it is",
                CommandSentences::commandFails);
    }

    private static void positions(Sentences document) {
        document.holds(46, "Returns the error position that was set last.",
                CommandSentences::lastErrorPosition);
        document.holds(46, "Throws `NoSuchElementException` if no error position was set",
                CommandSentences::noErrorPosition);
        document.holds(47, "Returns the index of the failed command of the latest run in which a"
                + " command failed.", CommandSentences::latestFailedCommand);
        document.holds(47, "Returns the index, from 0.", CommandSentences::failuresFromZero);
        document.holds(47, "Throws `NoSuchElementException` if no command has failed",
                CommandSentences::noFailedCommand);
    }

    private static void isNoText(FrogParliament p, String text, int position) {
        Check.equal("run of '" + text + "'", NO_TEXT, Parliaments.run(p, text));
        Check.equal("errorPosition of '" + text + "'", position,
                Observed.answer(() -> p.errorPosition()));
    }

    private static void fails(FrogParliament p, String text, int command) {
        Check.equal("run of '" + text + "'", FAILS, Parliaments.run(p, text));
        Check.equal("failedCommand of '" + text + "'", command,
                Observed.answer(() -> p.failedCommand()));
    }

    private static void runs(FrogParliament p, String text, int commands) {
        Check.equal("run of '" + text + "'", commands, Parliaments.run(p, text));
    }

    private static void bufferOfSixty() {
        String full = "frog 01;frog 02;pad 1;pad 1;pad 1;pad 1;pad 1;pad 1;motion 1";
        Check.equal("the length of the full text", MAX_TEXT, full.length());
        FrogParliament p = new FrogParliament();
        Parliaments.type(p, full);
        Check.refused(p, "append as the 61st", Parliaments.STATE, () -> p.append(';'));
        Check.equal("run of the full text", 9, Observed.answer(() -> p.run()));
        Check.equal("motionCount after the full text", 1, p.motionCount());
        FrogParliament ten = new FrogParliament();
        fails(ten, "pad 1;pad 1;pad 1;pad 1;pad 1;pad 1;pad 1;pad 1;pad 1;pad 1", 6);
        FrogParliament open = new FrogParliament();
        isNoText(open, "pad 1;pad 1;pad 1;pad 1;pad 1;pad 1;pad 1;pad 1;pad 1;pad 1;", 60);
        isNoText(open, "frog 01;frog 02;pad 1;pad 1;pad 1;pad 1;pad 1;pad 1;motion x", 59);
    }

    private static boolean fits(String piece, String shape) {
        if (piece.length() > shape.length()) {
            return false;
        }
        for (int i = 0; i < piece.length(); i++) {
            char sign = piece.charAt(i);
            boolean isDigit = sign >= '0' && sign <= '9';
            if (shape.charAt(i) == '#' ? !isDigit : sign != shape.charAt(i)) {
                return false;
            }
        }
        return true;
    }

    private static boolean isCommand(String piece) {
        for (String shape : SHAPES) {
            if (piece.length() == shape.length() && fits(piece, shape)) {
                return true;
            }
        }
        return false;
    }

    private static boolean startsCommand(String piece) {
        for (String shape : SHAPES) {
            if (fits(piece, shape)) {
                return true;
            }
        }
        return false;
    }

    private static boolean canContinue(String text) {
        String[] pieces = text.split(";", -1);
        for (int i = 0; i < pieces.length - 1; i++) {
            if (!isCommand(pieces[i])) {
                return false;
            }
        }
        return startsCommand(pieces[pieces.length - 1]);
    }

    private static boolean isCommandText(String text) {
        return canContinue(text) && isCommand(text.substring(text.lastIndexOf(';') + 1));
    }

    private static int errorPosition(String text) {
        for (int length = 1; length <= text.length(); length++) {
            if (!canContinue(text.substring(0, length))) {
                return length - 1;
            }
        }
        return text.length();
    }

    private static void formOfTexts() {
        FrogParliament p = new FrogParliament();
        for (String shape : SHAPES) {
            for (char digit = '0'; digit <= '9'; digit++) {
                String text = shape.replace('#', digit);
                Check.notRefusedAs("run of " + text, NO_TEXT, Parliaments.run(p, text));
                String next = text + ";" + text + ";" + text;
                Check.notRefusedAs("run of " + next, NO_TEXT, Parliaments.run(p, next));
            }
            String text = shape.replace('#', '1');
            isNoText(p, text + ";", text.length() + 1);
            isNoText(p, ";" + text, 0);
            isNoText(p, text + ";;" + text, text.length() + 1);
            isNoText(p, text + " ", text.length());
            isNoText(p, " " + text, 0);
            onlyThisForm(p, text);
        }
        for (int commands = 1; commands <= 10; commands++) {
            StringBuilder text = new StringBuilder("pad 0");
            for (int command = 1; command < commands; command++) {
                text.append(";pad 0");
            }
            Check.equal("run of " + text, FAILS, Parliaments.run(p, text.toString()));
        }
    }

    /** One character less or one digit more is a command text only if the form has it, too. */
    private static void onlyThisForm(FrogParliament p, String text) {
        for (int at = 0; at <= text.length(); at++) {
            String more = text.substring(0, at) + "1" + text.substring(at);
            Check.equal("'" + more + "' is no command text", !isCommandText(more),
                    NO_TEXT.equals(Parliaments.run(p, more)));
            String less = text.substring(0, at) + text.substring(Math.min(at + 1, text.length()));
            Check.equal("'" + less + "' is no command text", !isCommandText(less),
                    NO_TEXT.equals(Parliaments.run(p, less)));
        }
    }

    private static void commandsAreCalls() {
        for (String text : new String[] {"frog ", "pad ", "hop ", "dive ", "motion ", "list ",
            "strike ", "call ", "end ", "decide "}) {
            FrogParliament byCommand = busy();
            FrogParliament byCall = busy();
            for (int first = 0; first < 10; first++) {
                for (int second = 0; second < 14; second++) {
                    compare(byCommand, byCall, text, first, second);
                }
            }
        }
        FrogParliament byCommand = busy();
        FrogParliament byCall = busy();
        for (int motion = 0; motion < 7; motion++) {
            for (int frog = 0; frog < 13; frog++) {
                for (int loudness = 0; loudness < 10; loudness += 3) {
                    compareCroaks(byCommand, byCall, motion, frog, loudness);
                }
            }
        }
    }

    /** Nine frogs on three of four pads, and motions open, closed and decided. */
    private static FrogParliament busy() {
        FrogParliament p = Parliaments.with(9, 4, 5);
        for (int frog = 0; frog < 9; frog++) {
            p.hop(frog, frog / 3);
            p.signUp(0, 8 - frog);
        }
        p.signUp(1, 3);
        for (int motion = 1; motion < 4; motion++) {
            Parliaments.close(p, motion);
        }
        p.croak(2, 1, 4, false);
        p.dive(4);
        p.decide(3);
        return p;
    }

    private static void compare(FrogParliament byCommand, FrogParliament byCall, String keyword,
            int first, int second) {
        String text = keyword + first;
        if (keyword.equals("frog ")) {
            text = keyword + first + second % 10;
        } else if (keyword.equals("hop ")) {
            text = keyword + second + " " + first;
        } else if (keyword.equals("dive ") || keyword.equals("motion ")) {
            text = keyword + (first % 2 == 0 && second < 10 ? "0" : "") + second;
        } else if (keyword.matches("list |strike |end ")) {
            text = keyword + first + " " + second;
        }
        check(byCommand, byCall, text);
    }

    private static void compareCroaks(FrogParliament byCommand, FrogParliament byCall, int motion,
            int frog, int loudness) {
        String numbers = "croak " + motion + " " + (frog == 7 ? "0" : "") + frog;
        check(byCommand, byCall, numbers + "+" + loudness);
        check(byCommand, byCall, numbers + "-" + loudness);
    }

    /** The command does what the call does; both are undone then. */
    private static void check(FrogParliament byCommand, FrogParliament byCall, String text) {
        Object answer = Observed.answer(() -> call(byCall, text));
        boolean isThrown = answer instanceof String;
        Check.equal("run of " + text, isThrown ? (Object) FAILS : 1,
                Parliaments.run(byCommand, text));
        if (!isThrown) {
            Check.equal("the state after " + text, Observed.state(byCall),
                    Observed.state(byCommand));
            byCall.undo();
            byCommand.undo();
        }
    }

    private static Object call(FrogParliament p, String text) {
        String[] words = text.split("[ +-]");
        int[] n = new int[4];
        for (int i = 1; i < words.length; i++) {
            n[i - 1] = Integer.parseInt(words[i]);
        }
        switch (words[0]) {
            case "frog": return p.addFrog(n[0] / 10, n[0] % 10);
            case "pad": return p.addPad(n[0]);
            case "hop": return p.hop(n[0], n[1]);
            case "dive": return p.dive(n[0]);
            case "motion": return p.addMotion(n[0]);
            case "list": return p.signUp(n[0], n[1]);
            case "strike": return p.strike(n[0], n[1]);
            case "call": return p.callNext(n[0]);
            case "end": return p.supportClosure(n[0], n[1]);
            case "croak": return p.croak(n[0], n[1], n[2], text.indexOf('+') > 0);
            default: return p.decide(n[0]);
        }
    }

    private static void noFailures() {
        FrogParliament missed = Parliaments.with(1, 1, 1);
        runs(missed, "list 0 0;call 0;pad 2", 3);
        Check.equal("missedTotal", 1, missed.missedTotal());
        Check.equal("padCount behind a missed turn", 2, missed.padCount());
        FrogParliament open = Parliaments.seated(1, 1);
        runs(open, "end 0 0;frog 12", 2);
        Check.equal("isListClosed", false, open.isListClosed(0));
        Check.equal("closureWeight", 1, open.closureWeight(0));
        Check.equal("frogCount behind a list that stays open", 3, open.frogCount());
        FrogParliament rejected = Parliaments.closed(1);
        runs(rejected, "decide 0;frog 12", 2);
        Check.equal("isDecided", true, rejected.isDecided(0));
        Check.equal("isAdopted", false, rejected.isAdopted(0));
        Check.equal("frogCount behind a rejected motion", 2, rejected.frogCount());
        Check.equal("failedCommand", "NoSuchElementException",
                Observed.answer(() -> rejected.failedCommand()));
    }

    /** Each form with each of its characters replaced by each, alone and behind another command. */
    private static void firstWrongCharacter() {
        FrogParliament p = new FrogParliament();
        for (String shape : SHAPES) {
            String text = shape.replace('#', '1');
            for (int at = 0; at <= text.length(); at++) {
                String rest = at < text.length() ? text.substring(at + 1) : "";
                for (char sign = 32; sign <= 126; sign++) {
                    checkError(p, text.substring(0, at) + sign + rest);
                }
                checkError(p, "hop 12 3;" + text.substring(0, at) + "?" + rest);
                checkError(p, "dive 1;pad 0;" + text.substring(0, at) + rest);
            }
        }
    }

    private static void checkError(FrogParliament p, String text) {
        if (isCommandText(text)) {
            Check.notRefusedAs("run of '" + text + "'", NO_TEXT, Parliaments.run(p, text));
            if (p.frogCount() + p.padCount() + p.motionCount() > 0) {
                p.undo();
            }
        } else {
            isNoText(p, text, errorPosition(text));
        }
    }

    private static void textsThatBreakOff() {
        FrogParliament p = new FrogParliament();
        isNoText(p, "", 0);
        for (String shape : SHAPES) {
            String text = shape.replace('#', '9');
            for (int length = 0; length < text.length(); length++) {
                if (!isCommand(text.substring(0, length))) {
                    isNoText(p, text.substring(0, length), length);
                    isNoText(p, "pad 1;" + text.substring(0, length), 6 + length);
                }
            }
        }
    }

    private static void keywords() {
        FrogParliament p = new FrogParliament();
        for (String keyword : KEYWORDS) {
            isNoText(p, keyword, keyword.length());
            isNoText(p, keyword + "s 1", keyword.length());
            isNoText(p, keyword.toUpperCase() + " 1", 0);
            for (int length = 1; length < keyword.length(); length++) {
                isNoText(p, keyword.substring(0, length), length);
                isNoText(p, keyword.substring(0, length) + "x", length);
                isNoText(p, keyword.substring(0, length) + " ", length);
            }
        }
        isNoText(p, "deve 1", 2);
        isNoText(p, "diside 1", 2);
        isNoText(p, "croll 1", 3);
        isNoText(p, "caoak 1", 2);
        isNoText(p, "hip 1", 1);
        isNoText(p, "mop 1", 2);
    }

    private static void appendedCharacters() {
        FrogParliament p = new FrogParliament();
        Parliaments.type(p, "pad");
        Parliaments.type(p, " ");
        Parliaments.type(p, "3");
        Check.equal("run of a text typed in parts", 1, Observed.answer(() -> p.run()));
        Check.equal("padCount", 1, p.padCount());
        for (char sign = 32; sign <= 126; sign++) {
            char character = sign;
            Check.equal("append('" + sign + "')", 1,
                    Observed.answer(() -> p.append(character)));
            Parliaments.type(p, "~");
            boolean starts = "fphdmlsce".indexOf(sign) >= 0;
            Check.equal("run", NO_TEXT, Observed.answer(() -> p.run()));
            Check.equal("errorPosition behind '" + sign + "'", starts ? 1 : 0,
                    p.errorPosition());
        }
    }

    private static void lengths() {
        FrogParliament p = new FrogParliament();
        for (int round = 0; round < 3; round++) {
            for (int length = 1; length <= MAX_TEXT; length++) {
                Check.equal("append", length, Observed.answer(() -> p.append('p')));
            }
            Observed.answer(() -> p.run());
        }
        p.append('p');
        Observed.answer(() -> p.append((char) 127));
        Check.equal("append after a refused one", 2, p.append('a'));
    }

    private static void wrongCharacters() {
        FrogParliament p = new FrogParliament();
        int length = 0;
        for (int code = 0; code <= Character.MAX_VALUE; code++) {
            char character = (char) code;
            boolean isDue = code >= 32 && code <= 126;
            length += isDue ? 1 : 0;
            Check.equal("append(" + code + ")", isDue ? (Object) length : NO_TEXT,
                    Observed.answer(() -> p.append(character)));
            if (length == MAX_TEXT) {
                Observed.answer(() -> p.run());
                length = 0;
            }
        }
        Check.refused(p, "append(31)", Parliaments.ARGUMENT, () -> p.append((char) 31));
        Check.refused(p, "append(127)", Parliaments.ARGUMENT, () -> p.append((char) 127));
        Check.equal("append(32)", length + 1, Observed.answer(() -> p.append((char) 32)));
        Check.equal("append(126)", length + 2, Observed.answer(() -> p.append((char) 126)));
    }

    private static void fullText() {
        FrogParliament p = new FrogParliament();
        for (int length = 1; length <= MAX_TEXT; length++) {
            Check.notRefused("append", Parliaments.STATE, () -> p.append(' '));
        }
        for (int call = 0; call < 3; call++) {
            Check.refused(p, "append(' ') to 60", Parliaments.STATE, () -> p.append(' '));
            Check.refused(p, "append('~') to 60", Parliaments.STATE, () -> p.append('~'));
        }
        p.save();
        p.restore();
        Check.refused(p, "append after restore", Parliaments.STATE, () -> p.append(' '));
        Observed.answer(() -> p.run());
        Check.equal("append after run", 1, Observed.answer(() -> p.append(' ')));
    }

    private static void inOrder() {
        FrogParliament p = new FrogParliament();
        runs(p, "frog 01;frog 12;frog 23;pad 1;pad 4", 5);
        for (int frog = 0; frog < 3; frog++) {
            Check.equal("pondOf", frog, p.pondOf(frog));
            Check.equal("weightOf", frog + 1, p.weightOf(frog));
        }
        runs(p, "hop 0 0;dive 0;hop 1 0;hop 0 1;hop 2 1", 5);
        Check.equal("padOf(0)", 1, p.padOf(0));
        fails(p, "hop 0 0;dive 1", 0);
        runs(p, "dive 1;hop 0 0", 2);
        Check.equal("padOf(0) behind", 0, p.padOf(0));
        runs(p, "motion 7;list 0 2;list 0 0;call 0;list 0 1", 5);
        Check.equal("the list", "0,1~", Parliaments.list(p, 0));
        fails(p, "croak 0 0+1;end 0 2;end 0 0", 0);
        shorterTexts();
    }

    /** A text behind a longer one: nothing of the longer one is carried out. */
    private static void shorterTexts() {
        FrogParliament p = new FrogParliament();
        runs(p, "pad 1;pad 2;pad 3", 3);
        runs(p, "frog 01", 1);
        Check.equal("padCount after a shorter text", 3, p.padCount());
        isNoText(p, "frog 01;frog 02;frog 03;frog", 28);
        runs(p, "pad 4", 1);
        Check.equal("frogCount behind no command text", 1, p.frogCount());
        fails(p, "frog 04;frog 05;frog 06;frog 40", 3);
        runs(p, "pad 1;pad 2", 2);
        Check.equal("frogCount behind a failure", 1, p.frogCount());
        Check.equal("padCount of all", 6, p.padCount());
    }

    private static void allOrNone() {
        String[] done = {"frog 05", "pad 2", "hop 0 0", "motion 1", "list 0 0", "call 0",
            "end 0 0"};
        for (int failing = 0; failing <= 6; failing++) {
            FrogParliament p = Parliaments.with(0, 0, 0);
            StringBuilder text = new StringBuilder();
            for (int command = 0; command < failing; command++) {
                text.append(done[command]).append(';');
            }
            fails(p, text + "pad 9", failing);
            Check.equal("the whole after a failure at " + failing,
                    Observed.whole(new FrogParliament()), Observed.whole(p));
        }
        FrogParliament p = Parliaments.seated(5, 4, 3);
        FrogParliament twin = Parliaments.seated(5, 4, 3);
        fails(p, "list 0 2;dive 2;list 0 1;call 0;end 0 1;end 0 0;list 0 1", 6);
        fails(p, "end 0 1;end 0 0;croak 0 0+9;croak 0 2-9;decide 0;decide 0", 5);
        fails(p, "hop 0 3;motion 2;strike 0 0", 2);
        Check.equal("the whole after failures", Observed.whole(twin), Observed.whole(p));
        FrogParliament all = new FrogParliament();
        runs(all, "frog 05;pad 2;hop 0 0;motion 1;list 0 0;call 0;end 0 0", 7);
        Check.equal("speeches", 1, all.speeches(0));
        Check.equal("isListClosed", true, all.isListClosed(0));
    }

    private static void emptyAfterRun() {
        FrogParliament p = new FrogParliament();
        String[] texts = {"pad 1", "pad x", "pad 0", "", ";", "pad 1;pad 9", "pad 1;pad"};
        for (String text : texts) {
            Parliaments.run(p, text);
            isNoText(p, "", 0);
            Parliaments.run(p, text);
            Check.equal("append after run of '" + text + "'", 1, p.append('f'));
            Parliaments.type(p, "rog 01");
            Check.equal("run after run of '" + text + "'", 1, Observed.answer(() -> p.run()));
        }
    }

    private static void firstFailure() {
        for (int failing = 0; failing < 10; failing++) {
            FrogParliament p = new FrogParliament();
            StringBuilder text = new StringBuilder();
            for (int command = 0; command < 10; command++) {
                text.append(command == 0 ? "" : ";");
                text.append(command < failing && command < 6 ? "pad 1" : "pad 0");
            }
            fails(p, text.toString(), Math.min(failing, 6));
        }
        FrogParliament p = Parliaments.with(1, 1, 1);
        fails(p, "hop 0 0;hop 0 0;hop 9 9", 1);
        fails(p, "end 0 0;hop 0 0", 0);
        fails(p, "hop 0 0;end 0 0;end 0 0;dive 9", 2);
        fails(p, "call 0;call 0", 0);
        fails(p, "list 0 0;call 0;call 0;call 0", 2);
    }

    private static void numbersOfCommands() {
        String[] commands = {"pad 1", "pad 2", "pad 3", "pad 4", "pad 1", "pad 2", "call 0",
            "call 0", "call 0"};
        for (int count = 1; count <= commands.length; count++) {
            FrogParliament p = Parliaments.with(3, 0, 1);
            for (int frog = 0; frog < 3; frog++) {
                p.signUp(0, frog);
            }
            runs(p, String.join(";", java.util.Arrays.copyOf(commands, count)), count);
            Check.equal("padCount", Math.min(count, 6), p.padCount());
            Check.equal("missedTotal", Math.max(count - 6, 0), p.missedTotal());
        }
    }

    private static void noCommandText() {
        FrogParliament p = Parliaments.with(1, 1, 1);
        Check.equal("run of an empty text", NO_TEXT, Observed.answer(() -> p.run()));
        Check.equal("errorPosition of an empty text", 0, p.errorPosition());
        isNoText(p, "pad 1;frog 01;", 14);
        Check.refused(p, "failedCommand with errors alone", Parliaments.ELEMENT,
                () -> p.failedCommand());
        fails(p, "pad 1;pad 0", 1);
        String before = Observed.state(p);
        isNoText(p, "pad 0;pad", 9);
        isNoText(p, "pad 1;x", 6);
        Check.equal("failedCommand after errors", 1, p.failedCommand());
        Check.equal("the state after errors", before, Observed.state(p));
    }

    private static void commandFails() {
        FrogParliament p = Parliaments.with(1, 1, 1);
        fails(p, "pad 1;frog 90", 1);
        Check.refused(p, "errorPosition with failures alone", Parliaments.ELEMENT,
                () -> p.errorPosition());
        isNoText(p, "pads", 3);
        String before = Observed.state(p);
        fails(p, "dive 0", 0);
        fails(p, "pad 1;pad 2;dive 0", 2);
        Check.equal("errorPosition after failures", 3, p.errorPosition());
        Check.equal("the state after failures", before, Observed.state(p));
    }

    private static void lastErrorPosition() {
        FrogParliament p = new FrogParliament();
        for (int position = 7; position >= 0; position--) {
            isNoText(p, "motion 1".substring(0, position) + "~", position);
        }
        isNoText(p, "motion 1~", 8);
        isNoText(p, "pad x", 4);
        Check.equal("errorPosition asked again", 4, p.errorPosition());
        runs(p, "pad 1", 1);
        fails(p, "pad 9", 0);
        p.undo();
        p.save();
        p.restore();
        Check.equal("errorPosition after other calls", 4, p.errorPosition());
        isNoText(p, "", 0);
    }

    private static void noErrorPosition() {
        FrogParliament p = new FrogParliament();
        Check.refused(p, "errorPosition of a new object", Parliaments.ELEMENT,
                () -> p.errorPosition());
        Parliaments.type(p, "x");
        Check.refused(p, "errorPosition before run", Parliaments.ELEMENT,
                () -> p.errorPosition());
        Observed.answer(() -> p.run());
        Check.equal("errorPosition 0", 0, Observed.answer(() -> p.errorPosition()));
        FrogParliament other = new FrogParliament();
        runs(other, "pad 1", 1);
        fails(other, "pad 0", 0);
        Check.refused(other, "errorPosition after a run and a failure", Parliaments.ELEMENT,
                () -> other.errorPosition());
    }

    private static void latestFailedCommand() {
        FrogParliament p = new FrogParliament();
        fails(p, "pad 1;pad 1;pad 1;pad 0", 3);
        fails(p, "pad 1;pad 0", 1);
        fails(p, "pad 0", 0);
        fails(p, "pad 1;pad 2;pad 0", 2);
        Check.equal("failedCommand asked again", 2, p.failedCommand());
        runs(p, "pad 1", 1);
        isNoText(p, "pad", 3);
        p.undo();
        p.save();
        p.restore();
        Check.equal("failedCommand after other calls", 2, p.failedCommand());
    }

    private static void failuresFromZero() {
        for (int failing = 0; failing <= 6; failing++) {
            StringBuilder text = new StringBuilder();
            for (int command = 0; command < failing; command++) {
                text.append("pad 1;");
            }
            fails(new FrogParliament(), text + "dive 0", failing);
        }
    }

    private static void noFailedCommand() {
        FrogParliament p = new FrogParliament();
        Check.refused(p, "failedCommand of a new object", Parliaments.ELEMENT,
                () -> p.failedCommand());
        runs(p, "pad 1", 1);
        isNoText(p, "pad 0;", 6);
        Observed.answer(() -> p.addPad(0));
        Check.refused(p, "failedCommand after a run, an error and a refused call",
                Parliaments.ELEMENT, () -> p.failedCommand());
        fails(p, "pad 0", 0);
        Check.equal("failedCommand 0", 0, Observed.answer(() -> p.failedCommand()));
    }
}
