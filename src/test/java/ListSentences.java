/** The sentences on motions, lists and speeches: terms, promises 15 to 27, 41, 42, 48 and 49. */
final class ListSentences {
    private ListSentences() {
    }

    static void test(Sentences document) {
        terms(document);
        motions(document);
        signUpAndStrike(document);
        calls(document);
        nextFrogs(document);
        speechCounts(document);
        lines(document);
    }

    private static void terms(Sentences document) {
        document.holds(0, "An object is used for at most 512 calls after it has been made; what"
                + " later calls answer is free.", ListSentences::manyCalls);
        document.holds(0, "There are at most 6 motions, numbered from 0.",
                ListSentences::sixMotions);
        document.holds(0, "A motion has a set of ponds.", ListSentences::setsOfPonds);
        document.holds(0, "The frogs of these ponds are entitled to it, also frogs that are added"
                + " later.", ListSentences::laterFrogs);
        document.holds(0, "Each motion has a list of frogs that want to speak on it.",
                ListSentences::listOfEachMotion);
        document.holds(0, "A frog is on a list at most once, but can be signed up again when it is"
                + " on the list no longer.", ListSentences::atMostOnce);
        document.holds(0, "The list is open until it is closed.", ListSentences::openLists);
        document.holds(0, "The next frog on a list is the one with the fewest speeches so far, on"
                + " all motions together; of several, the one that was signed up first.",
                ListSentences::fewestSpeechesThenFirst);
    }

    private static void motions(Sentences document) {
        document.holds(15, "Adds an open motion with an empty open list.",
                ListSentences::newMotions);
        document.holds(15, "- `ponds`: the ponds of the motion as a bit mask, 1 to 15; bit k is"
                + " the pond k", ListSentences::maskParameter);
        document.holds(15, "Throws `IllegalArgumentException` if the mask is not from 1 to 15",
                ListSentences::wrongMask);
        document.holds(15, "Throws `IllegalStateException` if there are 6 motions",
                ListSentences::motionTooMany);
        document.holds(16, "Returns the number of motions.", ListSentences::motionCount);
        document.holds(17, "Throws `IndexOutOfBoundsException` if there is no such motion or frog",
                () -> Parliaments.onlyPairsThatThereAre("isEntitled",
                        (p, motion, frog) -> p.isEntitled(motion, frog)));
    }

    private static void signUpAndStrike(Sentences document) {
        document.holds(18, "Signs a frog up at the end of the list of a motion.",
                ListSentences::signUpAtTheEnd);
        document.holds(18, "Returns the number of frogs on the list after the call.",
                ListSentences::signUpCounts);
        document.holds(18, "Throws `IndexOutOfBoundsException` if there is no such motion or frog",
                () -> Parliaments.onlyPairsThatThereAre("signUp",
                        (p, motion, frog) -> p.signUp(motion, frog)));
        document.holds(18,
                "Throws `IllegalArgumentException` if the frog is not entitled to the motion",
                ListSentences::signUpOfStrangers);
        document.holds(18, "Throws `IllegalStateException` if the motion is decided, or its list"
                + " is closed", ListSentences::signUpTooLate);
        document.holds(18, "Throws `UnsupportedOperationException` if the frog is on the list",
                ListSentences::signUpTwice);
        document.holds(19, "Strikes a frog off the list of a motion, be the list open or closed.",
                ListSentences::strikeOffOpenAndClosed);
        document.holds(19, "Returns the number of frogs on the list after the call.",
                ListSentences::strikeCounts);
        document.holds(19, "Throws `IndexOutOfBoundsException` if there is no such motion or frog",
                () -> Parliaments.onlyPairsThatThereAre("strike",
                        (p, motion, frog) -> p.strike(motion, frog)));
        document.holds(19, "Throws `NoSuchElementException` if the frog is not on the list",
                () -> notOnTheList((p, motion, frog) -> p.strike(motion, frog)));
    }

    private static void calls(Sentences document) {
        document.holds(20, "Calls the next frog on the list of a motion, which is on the list no"
                + " longer.", ListSentences::calledIsOffTheList);
        document.holds(20, "If it sits on a pad, it speaks; otherwise it misses its turn.",
                ListSentences::speaksOrMisses);
        document.holds(20, "Throws `IndexOutOfBoundsException` if there is no such motion",
                () -> Parliaments.onlyMotionsThatThereAre("callNext",
                        (p, motion) -> p.callNext(motion)));
        document.holds(20, "Throws `NoSuchElementException` if no frog is on the list",
                () -> emptyList((p, motion) -> p.callNext(motion)));
        document.holds(21, "Returns the number of frogs on the list of a motion.",
                ListSentences::listLengths);
        document.holds(21, "Throws `IndexOutOfBoundsException` if there is no such motion",
                () -> Parliaments.onlyMotionsThatThereAre("listLength",
                        (p, motion) -> p.listLength(motion)));
    }

    private static void nextFrogs(Sentences document) {
        document.holds(22, "Returns the next frog on the list of a motion, found with a priority"
                + " queue.", () -> nextFrogOfFullList((p, motion) -> p.nextFrog(motion)));
        document.holds(22, "Throws `IndexOutOfBoundsException` if there is no such motion",
                () -> Parliaments.onlyMotionsThatThereAre("nextFrog",
                        (p, motion) -> p.nextFrog(motion)));
        document.holds(22, "Throws `NoSuchElementException` if no frog is on the list",
                () -> emptyList((p, motion) -> p.nextFrog(motion)));
        document.holds(23, "Returns the same frog as nextFrog(), found by comparing all frogs on"
                + " the list.", () -> nextFrogOfFullList((p, motion) -> p.nextFrogByScan(motion)));
        document.holds(23, "Throws `IndexOutOfBoundsException` if there is no such motion",
                () -> Parliaments.onlyMotionsThatThereAre("nextFrogByScan",
                        (p, motion) -> p.nextFrogByScan(motion)));
        document.holds(23, "Throws `NoSuchElementException` if no frog is on the list",
                () -> emptyList((p, motion) -> p.nextFrogByScan(motion)));
        document.holds(24, "Returns how many frogs would be called before a frog on the list of a"
                + " motion.", ListSentences::frogsBefore);
        document.holds(24, "Throws `IndexOutOfBoundsException` if there is no such motion or frog",
                () -> Parliaments.onlyPairsThatThereAre("frogsBefore",
                        (p, motion, frog) -> p.frogsBefore(motion, frog)));
        document.holds(24, "Throws `NoSuchElementException` if the frog is not on the list",
                () -> notOnTheList((p, motion, frog) -> p.frogsBefore(motion, frog)));
    }

    private static void speechCounts(Sentences document) {
        document.holds(25, "Returns the number of speeches that a frog has made so far.",
                ListSentences::speeches);
        document.holds(25, "Throws `IndexOutOfBoundsException` if there is no such frog",
                () -> Parliaments.onlyFrogsThatThereAre("speeches",
                        (p, frog) -> p.speeches(frog)));
        document.holds(26, "Returns the number of speeches made so far on a motion.",
                ListSentences::speechesOn);
        document.holds(26, "Throws `IndexOutOfBoundsException` if there is no such motion",
                () -> Parliaments.onlyMotionsThatThereAre("speechesOn",
                        (p, motion) -> p.speechesOn(motion)));
        document.holds(27, "Returns the frog at a rank: the frog with more speeches first; of frogs"
                + " with as many speeches the heavier one first; then the one with the lower"
                + " number first.", ListSentences::ranks);
        document.holds(27, "- `rank`: the rank, from 0", ListSentences::rankFromZero);
        document.holds(27, "Throws `NoSuchElementException` if there is no such rank",
                ListSentences::noSuchRank);
        document.holds(41, "Returns the number of speeches made so far.",
                ListSentences::speechTotal);
        document.holds(42, "Returns the number of turns missed so far.",
                ListSentences::missedTotal);
    }

    private static void lines(Sentences document) {
        document.holds(48, "Writes the list of a motion to the line, replacing its previous"
                + " content: the frogs in the order in which they would be called, with \",\""
                + " between two, and behind them \"|\" if the list is closed.",
                ListSentences::describeList);
        document.holds(48, "A frog that does not sit on a pad has \"~\" behind its number.",
                ListSentences::frogsInTheWater);
        document.holds(48, "An example is \"3,0~,11|\".", ListSentences::example);
        document.holds(48, "Returns the length of the line.", ListSentences::lineLengths);
        document.holds(48, "Throws `IndexOutOfBoundsException` if there is no such motion",
                () -> Parliaments.onlyMotionsThatThereAre("describeList",
                        (p, motion) -> p.describeList(motion)));
        document.holds(49, "Returns a character of the line.", ListSentences::charactersOfTheLine);
        document.holds(49, "The line is initially empty.", ListSentences::emptyLine);
        document.holds(49, "Throws `IndexOutOfBoundsException` if there is no such index",
                ListSentences::noSuchIndex);
    }

    /** Twelve frogs of weight 1 on pads, and one motion. */
    private static FrogParliament twelve() {
        return Parliaments.seated(1, 1, 1, 1, 1, 1, 1, 1, 1, 1, 1, 1);
    }

    private static void signUpAll(FrogParliament p, int motion, int... frogs) {
        for (int frog : frogs) {
            p.signUp(motion, frog);
        }
    }

    private static void manyCalls() {
        FrogParliament p = new FrogParliament();
        p.addFrog(0, 1);
        p.addFrog(0, 1);
        p.addPad(2);
        p.hop(0, 0);
        p.hop(1, 0);
        p.addMotion(1);
        for (int speech = 0; speech < 251; speech++) {
            p.signUp(0, 0);
            Check.equal("callNext", true, Observed.answer(() -> p.callNext(0)));
        }
        p.signUp(0, 0);
        p.signUp(0, 1);
        Check.equal("nextFrog as the 511th call", 1, p.nextFrog(0));
        Check.equal("speechTotal as the 512th call", 251, p.speechTotal());
        FrogParliament hopping = new FrogParliament();
        hopping.addFrog(3, 9);
        hopping.addPad(1);
        hopping.addPad(1);
        for (int call = 4; call <= 511; call++) {
            int pad = call % 2;
            Check.equal("hop", 1, Observed.answer(() -> hopping.hop(0, pad)));
        }
        Check.equal("undo as the 512th call", 7, hopping.undo());
    }

    private static void sixMotions() {
        FrogParliament p = new FrogParliament();
        for (int motion = 0; motion < 6; motion++) {
            Check.equal("addMotion", motion, Observed.answer(() -> p.addMotion(15)));
            Check.equal("motionCount", motion + 1, p.motionCount());
        }
        Check.refused(p, "addMotion as the 7th", Parliaments.STATE, () -> p.addMotion(15));
        Check.equal("motionCount", 6, p.motionCount());
        p.undo();
        Check.equal("addMotion after undo", 5, p.addMotion(1));
        Check.refused(p, "addMotion after undo", Parliaments.STATE, () -> p.addMotion(15));
    }

    private static void setsOfPonds() {
        for (int mask = 1; mask <= 15; mask++) {
            FrogParliament p = Parliaments.with(4, 0, 0);
            p.addMotion(16 - mask);
            p.addMotion(mask);
            for (int pond = 0; pond < 4; pond++) {
                boolean isIn = (mask / (1 << pond)) % 2 == 1;
                Check.equal("isEntitled of pond " + pond + " in mask " + mask, isIn,
                        p.isEntitled(1, pond));
            }
        }
    }

    private static void laterFrogs() {
        FrogParliament p = Parliaments.with(0, 6, 0);
        p.addMotion(5);
        for (int frog = 0; frog < 12; frog++) {
            int f = frog;
            p.addFrog(frog % 4, 1);
            p.hop(frog, frog / 4);
            boolean isDue = frog % 2 == 0;
            Check.equal("isEntitled", isDue, p.isEntitled(0, frog));
            Check.equal("entitledWeight", frog / 2 + 1, p.entitledWeight(0));
            Check.equal("signUp", isDue ? (Object) (frog / 2 + 1) : "IllegalArgumentException",
                    Observed.answer(() -> p.signUp(0, f)));
        }
        FrogParliament decided = Parliaments.closed(9);
        decided.decide(0);
        decided.addFrog(3, 9);
        Check.equal("isEntitled to a decided motion", true, decided.isEntitled(0, 1));
        Check.equal("entitledWeight of a decided motion", 18, decided.entitledWeight(0));
    }

    private static void listOfEachMotion() {
        FrogParliament p = Parliaments.with(12, 6, 6);
        for (int motion = 0; motion < 6; motion++) {
            for (int frog = 0; frog < 12; frog++) {
                p.signUp(motion, (frog + 2 * motion) % 12);
            }
        }
        for (int motion = 0; motion < 6; motion++) {
            Check.equal("listLength", 12, p.listLength(motion));
            Check.equal("nextFrog", 2 * motion, p.nextFrog(motion));
            p.strike(motion, 2 * motion);
            Check.equal("listLength after strike", 11, p.listLength(motion));
            Check.equal("listLength of the last motion", motion == 5 ? 11 : 12, p.listLength(5));
        }
    }

    private static void atMostOnce() {
        FrogParliament p = Parliaments.with(2, 1, 2);
        p.hop(0, 0);
        signUpAll(p, 0, 0, 1);
        Check.refused(p, "signUp of the first again", Parliaments.UNSUPPORTED,
                () -> p.signUp(0, 0));
        Check.refused(p, "signUp of the last again", Parliaments.UNSUPPORTED,
                () -> p.signUp(0, 1));
        Check.equal("signUp on another list", 1, Observed.answer(() -> p.signUp(1, 0)));
        p.strike(0, 0);
        Check.equal("signUp after strike", 2, Observed.answer(() -> p.signUp(0, 0)));
        Check.equal("callNext of a frog in the water", false, p.callNext(0));
        Check.equal("signUp after a missed turn", 2, Observed.answer(() -> p.signUp(0, 1)));
        Check.equal("callNext of a frog on a pad", true, p.callNext(0));
        Check.equal("signUp after a speech", 2, Observed.answer(() -> p.signUp(0, 0)));
        Check.refused(p, "signUp once more", Parliaments.UNSUPPORTED, () -> p.signUp(0, 0));
        p.undo();
        Check.equal("signUp after undo", 2, Observed.answer(() -> p.signUp(0, 0)));
    }

    private static void openLists() {
        FrogParliament p = Parliaments.seated(3, 3, 1);
        Check.equal("isListClosed at first", false, p.isListClosed(0));
        p.supportClosure(0, 0);
        Check.equal("isListClosed with less than half", false, p.isListClosed(0));
        Check.equal("signUp with less than half", 1, Observed.answer(() -> p.signUp(0, 0)));
        p.callNext(0);
        p.dive(0);
        p.addFrog(0, 9);
        Check.equal("isListClosed after other calls", false, p.isListClosed(0));
        Check.equal("signUp after other calls", 1, Observed.answer(() -> p.signUp(0, 3)));
        p.undo();
        p.undo();
        p.supportClosure(0, 1);
        Check.equal("isListClosed with more than half", true, p.isListClosed(0));
        Check.refused(p, "signUp with more than half", Parliaments.STATE, () -> p.signUp(0, 0));
    }

    private static void fewestSpeechesThenFirst() {
        FrogParliament p = Parliaments.seated(9, 1, 5);
        p.addMotion(15);
        signUpAll(p, 0, 2, 0, 1);
        Check.equal("nextFrog of as many speeches", 2, p.nextFrog(0));
        Parliaments.speak(p, 1, 2);
        Check.equal("nextFrog after a speech on another motion", 0, p.nextFrog(0));
        Parliaments.speak(p, 1, 0);
        Parliaments.speak(p, 1, 0);
        Check.equal("nextFrog of the fewest", 1, p.nextFrog(0));
        Parliaments.speak(p, 1, 1);
        Check.equal("the list by speeches, then by signing up", "2,1,0", Parliaments.list(p, 0));
        p.strike(0, 2);
        p.signUp(0, 2);
        Check.equal("the list after signing up anew", "1,2,0", Parliaments.list(p, 0));
        p.dive(1);
        p.signUp(1, 1);
        p.callNext(1);
        Check.equal("the list after a missed turn", "1~,2,0", Parliaments.list(p, 0));
        Check.equal("callNext of the first in the water", false, p.callNext(0));
        Check.equal("the list behind it", "2,0", Parliaments.list(p, 0));
    }

    private static void newMotions() {
        FrogParliament p = Parliaments.with(1, 1, 0);
        p.hop(0, 0);
        for (int motion = 0; motion < 6; motion++) {
            int m = motion;
            p.addMotion(1);
            Check.equal("isDecided", false, p.isDecided(motion));
            Check.equal("isAdopted", false, p.isAdopted(motion));
            Check.equal("isListClosed", false, p.isListClosed(motion));
            Check.equal("listLength", 0, p.listLength(motion));
            Check.equal("the list", "", Parliaments.list(p, motion));
            Check.equal("closureWeight", 0, p.closureWeight(motion));
            Check.equal("speechesOn", 0, p.speechesOn(motion));
            Check.refused(p, "nextFrog", Parliaments.ELEMENT, () -> p.nextFrog(m));
            Check.refused(p, "strongestFrog", Parliaments.ELEMENT, () -> p.strongestFrog(m));
            Check.equal("signUp", 1, Observed.answer(() -> p.signUp(m, 0)));
            p.callNext(motion);
            p.supportClosure(motion, 0);
            p.croak(motion, 0, 1, true);
            p.decide(motion);
        }
    }

    private static void maskParameter() {
        for (int mask = 1; mask <= 15; mask++) {
            FrogParliament p = Parliaments.with(4, 0, 0);
            int number = mask;
            Check.equal("addMotion(" + mask + ")", 0, Observed.answer(() -> p.addMotion(number)));
        }
        FrogParliament p = Parliaments.with(4, 0, 0);
        for (int pond = 0; pond < 4; pond++) {
            p.addMotion(1 << pond);
            for (int frog = 0; frog < 4; frog++) {
                Check.equal("bit " + pond + " is pond " + frog, frog == pond,
                        p.isEntitled(pond, frog));
            }
        }
    }

    private static void wrongMask() {
        FrogParliament p = new FrogParliament();
        Check.refused(p, "addMotion(0)", Parliaments.ARGUMENT, () -> p.addMotion(0));
        for (int mask = 16; mask <= 32; mask++) {
            int number = mask;
            Check.refused(p, "addMotion(" + mask + ")", Parliaments.ARGUMENT,
                    () -> p.addMotion(number));
        }
        for (int far : Parliaments.FAR) {
            Check.refused(p, "addMotion(" + far + ")", Parliaments.ARGUMENT,
                    () -> p.addMotion(far));
        }
        Check.equal("addMotion(1)", 0, Observed.answer(() -> p.addMotion(1)));
        Check.equal("addMotion(15)", 1, Observed.answer(() -> p.addMotion(15)));
    }

    private static void motionTooMany() {
        for (int motions = 0; motions < 6; motions++) {
            FrogParliament p = Parliaments.with(0, 0, motions);
            Check.equal("addMotion with " + motions + " motions", motions,
                    Observed.answer(() -> p.addMotion(1)));
        }
        FrogParliament p = Parliaments.with(1, 1, 6);
        Check.refused(p, "addMotion(1) with 6 motions", Parliaments.STATE, () -> p.addMotion(1));
        p.hop(0, 0);
        Parliaments.close(p, 5);
        p.decide(5);
        Check.refused(p, "addMotion(15) with a decided one of 6", Parliaments.STATE,
                () -> p.addMotion(15));
    }

    private static void motionCount() {
        for (int motions = 0; motions <= 6; motions++) {
            Check.equal("motionCount", motions, Parliaments.with(3, 3, motions).motionCount());
        }
    }

    private static void signUpAtTheEnd() {
        FrogParliament p = twelve();
        StringBuilder due = new StringBuilder();
        for (int turn = 0; turn < 12; turn++) {
            int frog = 5 * turn % 12;
            p.signUp(0, frog);
            due.append(turn == 0 ? "" : ",").append(frog);
            Check.equal("the list", due.toString(), Parliaments.list(p, 0));
            Check.equal("frogsBefore", turn, p.frogsBefore(0, frog));
        }
        p.strike(0, 0);
        p.signUp(0, 0);
        Check.equal("frogsBefore after signing up anew", 11, p.frogsBefore(0, 0));
    }

    private static void signUpCounts() {
        FrogParliament p = twelve();
        for (int frog = 0; frog < 12; frog++) {
            int f = frog;
            Check.equal("signUp", frog + 1, Observed.answer(() -> p.signUp(0, f)));
        }
        p.strike(0, 11);
        Check.equal("signUp of the 12th again", 12, Observed.answer(() -> p.signUp(0, 11)));
    }

    private static void signUpOfStrangers() {
        for (int mask = 1; mask <= 15; mask++) {
            FrogParliament p = Parliaments.with(4, 2, 0);
            p.addMotion(mask);
            p.hop(2, 0);
            p.hop(3, 0);
            for (int frog = 0; frog < 4; frog++) {
                int f = frog;
                if ((mask & 1 << frog) == 0) {
                    Check.refused(p, "signUp of pond " + frog + " for " + mask,
                            Parliaments.ARGUMENT, () -> p.signUp(0, f));
                } else {
                    Check.notRefused("signUp of pond " + frog + " for " + mask,
                            Parliaments.ARGUMENT, () -> p.signUp(0, f));
                }
            }
        }
    }

    private static void signUpTooLate() {
        FrogParliament p = Parliaments.seated(1, 1);
        p.signUp(0, 1);
        p.supportClosure(0, 0);
        Check.equal("signUp before the closure", 2, Observed.answer(() -> p.signUp(0, 0)));
        p.strike(0, 0);
        p.supportClosure(0, 1);
        Check.refused(p, "signUp on a closed list in use", Parliaments.STATE,
                () -> p.signUp(0, 0));
        p.callNext(0);
        Check.refused(p, "signUp on an empty closed list", Parliaments.STATE,
                () -> p.signUp(0, 0));
        Check.refused(p, "signUp on it of one that spoke", Parliaments.STATE,
                () -> p.signUp(0, 1));
        p.decide(0);
        Check.refused(p, "signUp on a decided motion", Parliaments.STATE, () -> p.signUp(0, 0));
        p.addMotion(15);
        Check.equal("signUp on another motion", 1, Observed.answer(() -> p.signUp(1, 0)));
    }

    private static void signUpTwice() {
        FrogParliament p = twelve();
        for (int frog = 0; frog < 12; frog++) {
            p.signUp(0, frog);
            for (int other = 0; other <= frog; other++) {
                int f = other;
                Check.refused(p, "signUp again", Parliaments.UNSUPPORTED, () -> p.signUp(0, f));
            }
        }
        p.callNext(0);
        Check.equal("signUp of the called one", 12, Observed.answer(() -> p.signUp(0, 0)));
    }

    private static void strikeOffOpenAndClosed() {
        for (int struck = 0; struck < 4; struck++) {
            FrogParliament open = Parliaments.seated(1, 1, 1, 1);
            signUpAll(open, 0, 0, 1, 2, 3);
            FrogParliament closed = Parliaments.seated(1, 1, 1, 1);
            signUpAll(closed, 0, 0, 1, 2, 3);
            Parliaments.close(closed, 0);
            int frog = struck;
            String due = "0,1,2,3".replace(struck == 0 ? "0," : "," + struck, "");
            Check.equal("strike off an open list", 3,
                    Observed.answer(() -> open.strike(0, frog)));
            Check.equal("the open list", due, Parliaments.list(open, 0));
            Check.equal("strike off a closed list", 3,
                    Observed.answer(() -> closed.strike(0, frog)));
            Check.equal("the closed list", due + "|", Parliaments.list(closed, 0));
            Check.equal("speechTotal", 0, closed.speechTotal());
            Check.equal("missedTotal", 0, closed.missedTotal());
        }
    }

    private static void strikeCounts() {
        FrogParliament p = twelve();
        signUpAll(p, 0, 0, 1, 2, 3, 4, 5, 6, 7, 8, 9, 10, 11);
        for (int turn = 0; turn < 12; turn++) {
            int frog = 7 * turn % 12;
            Check.equal("strike", 11 - turn, Observed.answer(() -> p.strike(0, frog)));
        }
    }

    private static void notOnTheList(Parliaments.OfTwo call) {
        FrogParliament p = Parliaments.seated(1, 1, 1);
        p.addMotion(15);
        Check.refused(p, "the call on an empty list", Parliaments.ELEMENT,
                () -> call.answer(p, 0, 0));
        signUpAll(p, 0, 0, 1);
        p.signUp(1, 2);
        Check.refused(p, "the call for a frog on another list", Parliaments.ELEMENT,
                () -> call.answer(p, 0, 2));
        p.callNext(0);
        Check.refused(p, "the call for a called frog", Parliaments.ELEMENT,
                () -> call.answer(p, 0, 0));
        p.strike(0, 1);
        Check.refused(p, "the call for a struck frog", Parliaments.ELEMENT,
                () -> call.answer(p, 0, 1));
        p.addMotion(1);
        Check.refused(p, "the call for a stranger", Parliaments.ELEMENT,
                () -> call.answer(p, 2, 1));
        Parliaments.close(p, 0);
        Check.refused(p, "the call on a closed list", Parliaments.ELEMENT,
                () -> call.answer(p, 0, 0));
        p.decide(0);
        Check.refused(p, "the call on a decided motion", Parliaments.ELEMENT,
                () -> call.answer(p, 0, 0));
        p.signUp(1, 0);
        Check.notRefused("the call for a frog on the list", Parliaments.ELEMENT,
                () -> call.answer(p, 1, 0));
    }

    private static void emptyList(Parliaments.OfOne call) {
        FrogParliament p = Parliaments.seated(1, 1);
        p.addMotion(15);
        p.signUp(1, 0);
        Check.refused(p, "the call on a new list", Parliaments.ELEMENT, () -> call.answer(p, 0));
        p.signUp(0, 0);
        Check.notRefused("the call on a list of one", Parliaments.ELEMENT,
                () -> call.answer(p, 0));
        if (p.listLength(0) > 0) {
            p.callNext(0);
        }
        Check.refused(p, "the call on a list that is done", Parliaments.ELEMENT,
                () -> call.answer(p, 0));
        p.signUp(0, 1);
        p.strike(0, 1);
        Check.refused(p, "the call on a list struck empty", Parliaments.ELEMENT,
                () -> call.answer(p, 0));
        Parliaments.close(p, 0);
        Check.refused(p, "the call on an empty closed list", Parliaments.ELEMENT,
                () -> call.answer(p, 0));
        p.decide(0);
        Check.refused(p, "the call on a decided motion", Parliaments.ELEMENT,
                () -> call.answer(p, 0));
    }

    private static void calledIsOffTheList() {
        FrogParliament p = twelve();
        signUpAll(p, 0, 11, 10, 9, 8, 7, 6, 5, 4, 3, 2, 1, 0);
        p.dive(5);
        Parliaments.close(p, 0);
        for (int frog = 11; frog >= 0; frog--) {
            int f = frog;
            Check.equal("nextFrog", frog, p.nextFrog(0));
            p.callNext(0);
            Check.equal("listLength after callNext", frog, p.listLength(0));
            Check.refused(p, "frogsBefore of the called frog", Parliaments.ELEMENT,
                    () -> p.frogsBefore(0, f));
        }
        Check.equal("the list when all are called", "|", Parliaments.list(p, 0));
    }

    private static void speaksOrMisses() {
        FrogParliament p = twelve();
        for (int frog = 0; frog < 12; frog++) {
            p.signUp(0, frog);
            boolean speaks = frog % 3 != 1;
            if (!speaks) {
                p.dive(frog);
            }
            int speeches = p.speechTotal();
            Check.equal("callNext", speaks, p.callNext(0));
            Check.equal("speeches", speaks ? 1 : 0, p.speeches(frog));
            Check.equal("speechTotal", speeches + (speaks ? 1 : 0), p.speechTotal());
            Check.equal("speechesOn", p.speechTotal(), p.speechesOn(0));
            Check.equal("missedTotal", frog + 1 - p.speechTotal(), p.missedTotal());
        }
        p.signUp(0, 1);
        p.hop(1, 0);
        Check.equal("callNext of a frog back on a pad", true, p.callNext(0));
    }

    private static void listLengths() {
        FrogParliament p = twelve();
        Check.equal("listLength of a new motion", 0, p.listLength(0));
        for (int frog = 0; frog < 12; frog++) {
            p.signUp(0, frog);
            Check.equal("listLength", frog + 1, p.listLength(0));
        }
        for (int turn = 11; turn >= 0; turn--) {
            if (turn % 2 == 0) {
                p.callNext(0);
            } else {
                p.strike(0, p.nextFrog(0));
            }
            Check.equal("listLength", turn, p.listLength(0));
        }
    }

    /** Frog k has made k % 4 speeches, and all twelve are on the list, 11 first. */
    private static FrogParliament fullList() {
        FrogParliament p = twelve();
        p.addMotion(15);
        for (int frog = 0; frog < 12; frog++) {
            for (int speech = 0; speech < frog % 4; speech++) {
                Parliaments.speak(p, 1, frog);
            }
        }
        signUpAll(p, 0, 11, 10, 9, 8, 7, 6, 5, 4, 3, 2, 1, 0);
        return p;
    }

    private static void nextFrogOfFullList(Parliaments.OfOne call) {
        FrogParliament p = fullList();
        int[] order = {8, 4, 0, 9, 5, 1, 10, 6, 2, 11, 7, 3};
        for (int frog : order) {
            Check.equal("the next frog", frog, call.answer(p, 0));
            Check.equal("the next frog, asked again", frog, call.answer(p, 0));
            p.strike(0, frog);
        }
        FrogParliament one = twelve();
        one.signUp(0, 11);
        Check.equal("the next frog of one", 11, call.answer(one, 0));
    }

    private static void frogsBefore() {
        FrogParliament p = fullList();
        int[] order = {8, 4, 0, 9, 5, 1, 10, 6, 2, 11, 7, 3};
        for (int called = 0; called < 12; called++) {
            for (int place = called; place < 12; place++) {
                Check.equal("frogsBefore", place - called, p.frogsBefore(0, order[place]));
            }
            p.callNext(0);
        }
        FrogParliament one = twelve();
        one.signUp(0, 11);
        Check.equal("frogsBefore of one", 0, one.frogsBefore(0, 11));
    }

    private static void speeches() {
        FrogParliament p = Parliaments.with(12, 1, 2);
        for (int frog = 0; frog < 12; frog++) {
            Check.equal("speeches at first", 0, p.speeches(frog));
            Parliaments.speak(p, 0, frog);
            Check.equal("speeches after a missed turn", 0, p.speeches(frog));
        }
        p.hop(11, 0);
        for (int speech = 1; speech <= 200; speech++) {
            Parliaments.speak(p, speech % 2, 11);
            Check.equal("speeches", speech, p.speeches(11));
        }
        p.signUp(0, 11);
        p.strike(0, 11);
        Check.equal("speeches after strike", 200, p.speeches(11));
        Check.equal("speeches of another", 0, p.speeches(0));
    }

    private static void speechesOn() {
        FrogParliament p = Parliaments.with(2, 1, 6);
        p.hop(0, 0);
        for (int motion = 0; motion < 6; motion++) {
            Check.equal("speechesOn at first", 0, p.speechesOn(motion));
            for (int speech = 1; speech <= 30 + motion; speech++) {
                Parliaments.speak(p, motion, 0);
                Check.equal("speechesOn", speech, p.speechesOn(motion));
            }
            Parliaments.speak(p, motion, 1);
            Check.equal("speechesOn after a missed turn", 30 + motion, p.speechesOn(motion));
        }
        Parliaments.close(p, 0);
        p.hop(1, 0);
        Parliaments.close(p, 0);
        p.decide(0);
        Check.equal("speechesOn a decided motion", 30, p.speechesOn(0));
    }

    private static void checkRanks(FrogParliament p, int... frogs) {
        for (int rank = 0; rank < frogs.length; rank++) {
            Check.equal("frogAtRank(" + rank + ")", frogs[rank], p.frogAtRank(rank));
        }
        Check.refused(p, "frogAtRank(" + frogs.length + ")", Parliaments.ELEMENT,
                () -> p.frogAtRank(frogs.length));
    }

    private static void ranks() {
        checkRanks(Parliaments.seated(5, 5, 5), 0, 1, 2);
        checkRanks(Parliaments.seated(1, 9, 5, 9), 1, 3, 2, 0);
        FrogParliament p = Parliaments.seated(9, 1, 5, 5, 1);
        Parliaments.speak(p, 0, 4);
        checkRanks(p, 4, 0, 2, 3, 1);
        Parliaments.speak(p, 0, 1);
        checkRanks(p, 1, 4, 0, 2, 3);
        Parliaments.speak(p, 0, 4);
        Parliaments.speak(p, 0, 3);
        checkRanks(p, 4, 3, 1, 0, 2);
        p.dive(0);
        Parliaments.speak(p, 0, 0);
        checkRanks(p, 4, 3, 1, 0, 2);
    }

    private static void rankFromZero() {
        FrogParliament p = Parliaments.with(1, 0, 0);
        Check.equal("frogAtRank(0)", 0, Observed.answer(() -> p.frogAtRank(0)));
        FrogParliament all = Parliaments.seated(1, 1, 1, 1, 1, 1, 1, 1, 1, 1, 1, 9);
        Check.equal("frogAtRank(0) of twelve", 11, all.frogAtRank(0));
        Check.equal("frogAtRank(11) of twelve", 10, all.frogAtRank(11));
    }

    private static void noSuchRank() {
        for (int frogs = 0; frogs <= 12; frogs++) {
            FrogParliament p = Parliaments.with(frogs, 1, 1);
            for (int rank = 0; rank <= 13; rank++) {
                int number = rank;
                if (rank >= frogs) {
                    Check.refused(p, "frogAtRank(" + rank + ") of " + frogs, Parliaments.ELEMENT,
                            () -> p.frogAtRank(number));
                } else {
                    Check.notRefused("frogAtRank(" + rank + ") of " + frogs, Parliaments.ELEMENT,
                            () -> p.frogAtRank(number));
                }
            }
            for (int far : Parliaments.FAR) {
                Check.refused(p, "frogAtRank(" + far + ")", Parliaments.ELEMENT,
                        () -> p.frogAtRank(far));
            }
        }
    }

    private static void speechTotal() {
        FrogParliament p = Parliaments.with(2, 1, 2);
        p.hop(0, 0);
        Check.equal("speechTotal at first", 0, p.speechTotal());
        for (int speech = 1; speech <= 200; speech++) {
            Parliaments.speak(p, speech % 2, 0);
            Check.equal("speechTotal", speech, p.speechTotal());
        }
        Parliaments.speak(p, 0, 1);
        p.signUp(0, 0);
        p.strike(0, 0);
        Check.equal("speechTotal after a missed turn and a strike", 200, p.speechTotal());
    }

    private static void missedTotal() {
        FrogParliament p = Parliaments.with(2, 1, 2);
        p.hop(0, 0);
        Check.equal("missedTotal at first", 0, p.missedTotal());
        for (int turn = 1; turn <= 200; turn++) {
            Parliaments.speak(p, turn % 2, 1);
            Check.equal("missedTotal", turn, p.missedTotal());
        }
        Parliaments.speak(p, 0, 0);
        p.signUp(0, 1);
        p.strike(0, 1);
        Check.equal("missedTotal after a speech and a strike", 200, p.missedTotal());
    }

    private static void describeList() {
        FrogParliament p = fullList();
        Check.equal("a full list", "8,4,0,9,5,1,10,6,2,11,7,3", Parliaments.list(p, 0));
        Check.equal("an empty list", "", Parliaments.list(p, 1));
        p.signUp(1, 7);
        Check.equal("a list of one", "7", Parliaments.list(p, 1));
        p.signUp(1, 10);
        Check.equal("a list of two", "10,7", Parliaments.list(p, 1));
        Parliaments.close(p, 1);
        Check.equal("a closed list of two", "10,7|", Parliaments.list(p, 1));
        p.callNext(1);
        Check.equal("a closed list of one", "7|", Parliaments.list(p, 1));
        p.callNext(1);
        Check.equal("an empty closed list", "|", Parliaments.list(p, 1));
        Check.equal("the other list, which is open", "8,4,0,9,5,1,6,2,11,10,3,7",
                Parliaments.list(p, 0));
        p.decide(1);
        Check.equal("the list of a decided motion", "|", Parliaments.list(p, 1));
        for (int seed = 1; seed <= 60; seed++) {
            listInOtherOrder(seed);
        }
    }

    /** Frogs with some speeches, signed up in some order: the line tells the order of the calls. */
    private static void listInOtherOrder(int seed) {
        FrogParliament p = twelve();
        p.addMotion(15);
        for (int frog = 0; frog < 12; frog++) {
            for (int speech = seed * (7 * frog + 3) % 13 % 5; speech > 0; speech--) {
                Parliaments.speak(p, 1, frog);
            }
        }
        int step = new int[] {1, 5, 7, 11}[seed % 4];
        StringBuilder due = new StringBuilder();
        for (int speeches = 0; speeches < 5; speeches++) {
            for (int turn = 0; turn < 12; turn++) {
                int frog = (seed + step * turn) % 12;
                if (p.speeches(frog) == speeches) {
                    due.append(due.length() > 0 ? "," : "").append(frog);
                }
            }
        }
        for (int turn = 0; turn < 12; turn++) {
            p.signUp(0, (seed + step * turn) % 12);
        }
        Check.equal("the list " + seed, due.toString(), Parliaments.list(p, 0));
    }

    private static void frogsInTheWater() {
        FrogParliament p = twelve();
        p.dive(0);
        p.dive(11);
        signUpAll(p, 0, 0, 10, 11, 1);
        Check.equal("frogs on pads and in the water", "0~,10,11~,1", Parliaments.list(p, 0));
        p.hop(0, 5);
        Check.equal("the list after a hop", "0,10,11~,1", Parliaments.list(p, 0));
        for (int frog = 0; frog < 11; frog++) {
            p.dive(frog);
        }
        Check.equal("all in the water", "0~,10~,11~,1~", Parliaments.list(p, 0));
        FrogParliament full = Parliaments.with(12, 0, 1);
        signUpAll(full, 0, 0, 1, 2, 3, 4, 5, 6, 7, 8, 9, 10, 11);
        Check.equal("all twelve in the water", "0~,1~,2~,3~,4~,5~,6~,7~,8~,9~,10~,11~",
                Parliaments.list(full, 0));
    }

    private static void example() {
        FrogParliament p = twelve();
        signUpAll(p, 0, 3, 0, 11);
        p.dive(0);
        for (int frog = 1; frog <= 7; frog++) {
            p.supportClosure(0, frog);
        }
        Check.equal("the length of the example", 8, p.describeList(0));
        Check.equal("the example", "3,0~,11|", Observed.line(p));
    }

    private static void lineLengths() {
        FrogParliament p = twelve();
        Check.equal("the length of an empty line", 0, p.describeList(0));
        int[] lengths = {1, 3, 5, 7, 9, 11, 13, 15, 17, 19, 22, 25};
        for (int frog = 0; frog < 12; frog++) {
            p.signUp(0, frog);
            Check.equal("the length with " + (frog + 1), lengths[frog], p.describeList(0));
        }
        Parliaments.close(p, 0);
        Check.equal("the length when closed", 26, p.describeList(0));
        for (int frog = 0; frog < 12; frog++) {
            p.dive(frog);
            Check.equal("the length with frogs in the water", 27 + frog, p.describeList(0));
        }
        Check.equal("the line", 38, Observed.line(p).length());
    }

    private static void charactersOfTheLine() {
        FrogParliament p = twelve();
        signUpAll(p, 0, 10, 3);
        p.dive(3);
        Parliaments.close(p, 0);
        Check.equal("describeList", 6, p.describeList(0));
        char[] due = {'1', '0', ',', '3', '~', '|'};
        for (int index = 0; index < due.length; index++) {
            Check.equal("lineAt(" + index + ")", due[index], p.lineAt(index));
        }
        p.callNext(0);
        p.callNext(0);
        Check.equal("lineAt(0) until the line is written anew", '1', p.lineAt(0));
        p.describeList(0);
        Check.equal("lineAt(0) of the new line", '|', p.lineAt(0));
    }

    private static void emptyLine() {
        FrogParliament p = new FrogParliament();
        Check.refused(p, "lineAt(0) of a new object", Parliaments.INDEX, () -> p.lineAt(0));
        p.addFrog(0, 1);
        p.addMotion(1);
        p.signUp(0, 0);
        Check.refused(p, "lineAt(0) before describeList", Parliaments.INDEX, () -> p.lineAt(0));
        p.describeList(0);
        Check.equal("lineAt(0) after describeList", '0', Observed.answer(() -> p.lineAt(0)));
    }

    private static void noSuchIndex() {
        FrogParliament p = twelve();
        for (int frogs = 0; frogs < 10; frogs++) {
            int length = p.describeList(0);
            for (int far : Parliaments.FAR) {
                if (far < 0 || far > length) {
                    Check.refused(p, "lineAt(" + far + ")", Parliaments.INDEX,
                            () -> p.lineAt(far));
                }
            }
            Check.refused(p, "lineAt(length)", Parliaments.INDEX, () -> p.lineAt(length));
            for (int index = 0; index < length; index++) {
                int i = index;
                Check.notRefused("lineAt(" + index + ")", Parliaments.INDEX, () -> p.lineAt(i));
            }
            p.signUp(0, frogs);
        }
        Parliaments.list(p, 0);
        p.strike(0, 0);
        p.describeList(0);
        Check.refused(p, "lineAt behind a shorter line", Parliaments.INDEX, () -> p.lineAt(17));
    }
}
