/** The sentences on closures, croaks and decisions: terms, promises 28 to 40, 43 and 51. */
final class CroakSentences {
    private CroakSentences() {
    }

    static void test(Sentences document) {
        terms(document);
        closures(document);
        croaks(document);
        decisions(document);
        croakSums(document);
        strongest(document);
        totals(document);
    }

    private static void terms(Sentences document) {
        document.holds(0, "A motion is open until it is decided; it is adopted or rejected then.",
                CroakSentences::openUntilDecided);
        document.holds(0, "The weight of a set of frogs is the sum of their weights.",
                CroakSentences::weightsOfSets);
        document.holds(0, "Frogs that have supported a closure count as supporters also when they"
                + " do not sit on a pad any longer.", CroakSentences::supportersInTheWater);
    }

    private static void closures(Sentences document) {
        document.holds(28, "Lets a frog support the closure of the list of a motion.",
                CroakSentences::supportOfOneMotion);
        document.holds(28, "A frog that supports it already goes on to do so.",
                CroakSentences::supportAgain);
        document.holds(28, "The list is closed if, at this call, twice the weight of the supporters"
                + " is greater than the weight of all entitled frogs.",
                CroakSentences::moreThanHalf);
        document.holds(28, "A closed list stays closed.", CroakSentences::staysClosed);
        document.holds(28, "Throws `IndexOutOfBoundsException` if there is no such motion or frog",
                () -> Parliaments.onlyPairsThatThereAre("supportClosure",
                        (p, motion, frog) -> p.supportClosure(motion, frog)));
        document.holds(28,
                "Throws `IllegalArgumentException` if the frog is not entitled to the motion",
                CroakSentences::supportOfStrangers);
        document.holds(28, "Throws `IllegalStateException` if the motion is decided, or its list"
                + " is closed", CroakSentences::supportTooLate);
        document.holds(28,
                "Throws `UnsupportedOperationException` if the frog does not sit on a pad",
                CroakSentences::supportFromWater);
        ofMotion(document, 29, "isListClosed", (p, motion) -> p.isListClosed(motion));
        document.holds(30, "Returns the weight of the supporters of the closure of the list of a"
                + " motion.", CroakSentences::closureWeights);
        ofMotion(document, 30, "closureWeight", (p, motion) -> p.closureWeight(motion));
        document.holds(31, "Returns the weight of all frogs entitled to a motion.",
                CroakSentences::entitledWeights);
        ofMotion(document, 31, "entitledWeight", (p, motion) -> p.entitledWeight(motion));
    }

    private static void croaks(Sentences document) {
        document.holds(32, "Lets a frog croak for or against a motion.",
                CroakSentences::forOrAgainst);
        document.holds(32, "The strength of the croak is the loudness multiplied by the weight of"
                + " the frog.", CroakSentences::strengths);
        document.holds(32, "- `loudness`: the loudness, 1 to 9", CroakSentences::loudnesses);
        document.holds(32, "Returns the sum of the strengths of all croaks on the same side after"
                + " the call.", CroakSentences::croakAnswers);
        document.holds(32, "Throws `IndexOutOfBoundsException` if there is no such motion or frog",
                () -> Parliaments.onlyPairsThatThereAre("croak",
                        (p, motion, frog) -> p.croak(motion, frog, 9, false)));
        document.holds(32, "Throws `IllegalArgumentException` if the loudness is not from 1 to 9,"
                + " or the frog is not entitled to the motion", CroakSentences::croakOfWrongKind);
        document.holds(32, "Throws `IllegalStateException` if the motion is decided, its list is"
                + " not closed, or a frog is on the list", CroakSentences::croakAtWrongTime);
        document.holds(32, "Throws `UnsupportedOperationException` if the frog does not sit on a"
                + " pad, or has croaked on the motion", CroakSentences::croakFromWaterOrAgain);
    }

    private static void decisions(Sentences document) {
        document.holds(33, "Decides a motion.", CroakSentences::decidesOneMotion);
        document.holds(33, "It is adopted if the sum of the strengths of the croaks for it is"
                + " greater than that of the croaks against it, and rejected otherwise.",
                CroakSentences::adoptedIfGreater);
        ofMotion(document, 33, "decide", (p, motion) -> p.decide(motion));
        document.holds(33, "Throws `IllegalStateException` if the motion is decided, its list is"
                + " not closed, or a frog is on the list", CroakSentences::decideAtWrongTime);
        ofMotion(document, 34, "isDecided", (p, motion) -> p.isDecided(motion));
        ofMotion(document, 35, "isAdopted", (p, motion) -> p.isAdopted(motion));
        document.holds(43, "Returns the number of adopted motions.", CroakSentences::adoptedCount);
    }

    private static void croakSums(Sentences document) {
        document.holds(36, "Returns the sum of the strengths of the croaks for a motion, added"
                + " croak by croak.", () -> sums((p, motion) -> p.croaksFor(motion), true));
        ofMotion(document, 36, "croaksFor", (p, motion) -> p.croaksFor(motion));
        document.holds(37, "Returns the same sum as croaksFor(), added pond by pond.",
                () -> sums((p, motion) -> p.croaksForByPonds(motion), true));
        ofMotion(document, 37, "croaksForByPonds", (p, motion) -> p.croaksForByPonds(motion));
        document.holds(38, "Returns the sum of the strengths of the croaks against a motion.",
                () -> sums((p, motion) -> p.croaksAgainst(motion), false));
        ofMotion(document, 38, "croaksAgainst", (p, motion) -> p.croaksAgainst(motion));
    }

    private static void strongest(Sentences document) {
        document.holds(39, "Returns the frog with the strongest croak on a motion, on either side.",
                CroakSentences::strongestOnEitherSide);
        document.holds(39, "If several croaks are the strongest, the frog that croaked first is"
                + " returned.", CroakSentences::firstOfTheStrongest);
        ofMotion(document, 39, "strongestFrog", (p, motion) -> p.strongestFrog(motion));
        document.holds(39, "Throws `NoSuchElementException` if no frog has croaked on the motion",
                () -> noCroak(Parliaments.ELEMENT, (p, motion) -> p.strongestFrog(motion)));
        document.holds(40, "Returns the share of the strengths of all croaks on a motion that are"
                + " for it, both sums converted to float.", CroakSentences::shares);
        ofMotion(document, 40, "shareFor", (p, motion) -> p.shareFor(motion));
        document.holds(40, "Throws `ArithmeticException` if no frog has croaked on the motion",
                () -> noCroak(Parliaments.ARITHMETIC, (p, motion) -> p.shareFor(motion)));
    }

    private static void totals(Sentences document) {
        document.holds(51, "Checks the invariants: sittingCount() equals sittingCountBySet(); for"
                + " all motions with frogs on their lists nextFrog() equals nextFrogByScan(); for"
                + " all motions croaksFor() equals croaksForByPonds(); and the speeches on all"
                + " motions add up to speechTotal().", CroakSentences::invariants);
        document.holds(51, "Returns whether all of them hold.", CroakSentences::isConsistent);
    }

    private static void ofMotion(Sentences document, int promise, String name,
            Parliaments.OfOne call) {
        document.holds(promise, "Throws `IndexOutOfBoundsException` if there is no such motion",
                () -> Parliaments.onlyMotionsThatThereAre(name, call));
    }

    private static void openUntilDecided() {
        FrogParliament p = Parliaments.seated(4, 3);
        p.signUp(0, 0);
        Check.equal("isDecided of an open motion", false, p.isDecided(0));
        p.callNext(0);
        Parliaments.close(p, 0);
        p.croak(0, 0, 3, true);
        Check.equal("isDecided before decide", false, p.isDecided(0));
        Check.equal("isAdopted before decide", false, p.isAdopted(0));
        p.decide(0);
        Check.equal("isDecided of an adopted motion", true, p.isDecided(0));
        Check.equal("isAdopted of an adopted motion", true, p.isAdopted(0));
        p.addMotion(15);
        Parliaments.close(p, 1);
        p.croak(1, 0, 3, false);
        Check.equal("isDecided of the next motion", false, p.isDecided(1));
        p.decide(1);
        Check.equal("isDecided of a rejected motion", true, p.isDecided(1));
        Check.equal("isAdopted of a rejected motion", false, p.isAdopted(1));
    }

    private static void weightsOfSets() {
        FrogParliament p = new FrogParliament();
        p.addMotion(1);
        p.addPad(4);
        Check.equal("the weight of no frogs", 0, p.entitledWeight(0));
        Check.equal("the weight of no supporters", 0, p.closureWeight(0));
        Check.equal("the weight of an empty pad", 0, p.padWeight(0));
        for (int frog = 0; frog < 12; frog++) {
            p.addFrog(0, 9);
            Check.equal("the weight of all", 9 * (frog + 1), p.entitledWeight(0));
        }
        p.hop(0, 0);
        p.hop(11, 0);
        p.supportClosure(0, 0);
        p.supportClosure(0, 11);
        Check.equal("the weight of supporters", 18, p.closureWeight(0));
        Check.equal("the weight on a pad", 18, p.padWeight(0));
    }

    private static void supportersInTheWater() {
        FrogParliament p = Parliaments.seated(4, 3, 2, 9);
        p.supportClosure(0, 0);
        p.supportClosure(0, 1);
        p.dive(0);
        Check.equal("closureWeight after a dive", 7, p.closureWeight(0));
        p.dive(1);
        Check.equal("closureWeight after both dived", 7, p.closureWeight(0));
        Check.equal("supportClosure at half", false, p.supportClosure(0, 2));
        p.undo();
        Check.equal("supportClosure above half", true, p.supportClosure(0, 3));
        Check.equal("closureWeight of a closed list", 16, p.closureWeight(0));
        p.dive(3);
        Check.equal("closureWeight with all in the water", 16, p.closureWeight(0));
        Check.equal("isListClosed with all in the water", true, p.isListClosed(0));
    }

    private static void supportOfOneMotion() {
        FrogParliament p = Parliaments.with(12, 6, 6);
        for (int frog = 0; frog < 12; frog++) {
            p.hop(frog, frog / 2);
            p.supportClosure(frog / 2, frog);
            for (int motion = 0; motion < 6; motion++) {
                int due = motion > frog / 2 ? 0 : weightOfPair(motion, frog);
                Check.equal("closureWeight", due, p.closureWeight(motion));
            }
        }
    }

    /** The weight of the frogs 2 * motion and 2 * motion + 1, as far as they are up to last. */
    private static int weightOfPair(int motion, int last) {
        int first = 2 * motion;
        int weight = first % 9 + 1;
        return last > first ? weight + (first + 1) % 9 + 1 : weight;
    }

    private static void supportAgain() {
        FrogParliament p = Parliaments.seated(4, 4, 1);
        Check.equal("supportClosure", false, p.supportClosure(0, 0));
        for (int call = 0; call < 3; call++) {
            Check.equal("supportClosure again", false,
                    Observed.answer(() -> p.supportClosure(0, 0)));
            Check.equal("closureWeight", 4, p.closureWeight(0));
        }
        Check.equal("supportClosure of one more", true, p.supportClosure(0, 2));
        Check.equal("closureWeight of both", 5, p.closureWeight(0));
    }

    private static void moreThanHalf() {
        for (int weight = 1; weight <= 9; weight++) {
            for (int other = 1; other <= 9; other++) {
                FrogParliament p = Parliaments.seated(weight, other);
                Check.equal("supportClosure of " + weight + " beside " + other, weight > other,
                        p.supportClosure(0, 0));
                Check.equal("isListClosed", weight > other, p.isListClosed(0));
            }
        }
        FrogParliament all = Parliaments.seated(9, 9, 9, 9, 9, 9, 9, 9, 9, 9, 9, 9);
        for (int frog = 0; frog < 7; frog++) {
            Check.equal("supportClosure of " + (frog + 1) + " of 12", frog == 6,
                    all.supportClosure(0, frog));
        }
        FrogParliament strangers = Parliaments.seated(2, 9, 1, 9);
        strangers.addMotion(5);
        Check.equal("supportClosure beside heavy strangers", true, strangers.supportClosure(1, 0));
        FrogParliament later = Parliaments.seated(3, 2);
        later.addFrog(0, 1);
        Check.equal("supportClosure at half with a later frog", false, later.supportClosure(0, 0));
        FrogParliament water = Parliaments.seated(3, 3);
        water.dive(1);
        Check.equal("supportClosure at half with one in the water", false,
                water.supportClosure(0, 0));
    }

    private static void staysClosed() {
        FrogParliament p = Parliaments.closed(5, 4);
        for (int frog = 0; frog < 10; frog++) {
            p.addFrog(frog % 4, 9);
            Check.equal("isListClosed with a later frog", true, p.isListClosed(0));
        }
        p.dive(0);
        Check.equal("isListClosed with the supporter in the water", true, p.isListClosed(0));
        p.hop(2, 0);
        Check.refused(p, "supportClosure below half", Parliaments.STATE,
                () -> p.supportClosure(0, 2));
        p.dive(1);
        p.hop(1, 3);
        p.croak(0, 1, 1, true);
        p.decide(0);
        Check.equal("isListClosed of a decided motion", true, p.isListClosed(0));
    }

    private static void supportOfStrangers() {
        for (int mask = 1; mask <= 15; mask++) {
            FrogParliament p = Parliaments.seated(1, 1, 1, 1);
            p.addMotion(mask);
            p.dive(3);
            for (int frog = 0; frog < 4; frog++) {
                int f = frog;
                if ((mask & 1 << frog) == 0) {
                    Check.refused(p, "supportClosure of pond " + frog + " for " + mask,
                            Parliaments.ARGUMENT, () -> p.supportClosure(1, f));
                } else {
                    Check.notRefused("supportClosure of pond " + frog + " for " + mask,
                            Parliaments.ARGUMENT, () -> p.supportClosure(1, f));
                }
            }
        }
    }

    private static void supportTooLate() {
        FrogParliament p = Parliaments.seated(3, 3, 1);
        p.signUp(0, 2);
        Check.equal("supportClosure of an open list", false,
                Observed.answer(() -> p.supportClosure(0, 0)));
        p.supportClosure(0, 1);
        Check.refused(p, "supportClosure of a closed list in use", Parliaments.STATE,
                () -> p.supportClosure(0, 2));
        Check.refused(p, "supportClosure by a supporter", Parliaments.STATE,
                () -> p.supportClosure(0, 0));
        p.strike(0, 2);
        Check.refused(p, "supportClosure of an empty closed list", Parliaments.STATE,
                () -> p.supportClosure(0, 2));
        p.decide(0);
        Check.refused(p, "supportClosure on a decided motion", Parliaments.STATE,
                () -> p.supportClosure(0, 2));
        Check.refused(p, "supportClosure on a decided motion by a supporter", Parliaments.STATE,
                () -> p.supportClosure(0, 0));
        p.addMotion(15);
        Check.equal("supportClosure of another list", false,
                Observed.answer(() -> p.supportClosure(1, 2)));
    }

    private static void supportFromWater() {
        FrogParliament p = Parliaments.with(12, 1, 1);
        for (int frog = 0; frog < 12; frog++) {
            int f = frog;
            Check.refused(p, "supportClosure from the water", Parliaments.UNSUPPORTED,
                    () -> p.supportClosure(0, f));
        }
        p.hop(0, 0);
        Check.equal("supportClosure from a pad", false,
                Observed.answer(() -> p.supportClosure(0, 0)));
        p.dive(0);
        Check.refused(p, "supportClosure of a supporter that dived", Parliaments.UNSUPPORTED,
                () -> p.supportClosure(0, 0));
    }

    private static void closureWeights() {
        FrogParliament p = Parliaments.seated(9, 8, 7, 6, 5, 4, 3, 2, 1, 1, 1, 1);
        Check.equal("closureWeight of none", 0, p.closureWeight(0));
        int weight = 0;
        for (int frog = 11; frog >= 4; frog--) {
            p.supportClosure(0, frog);
            weight += p.weightOf(frog);
            Check.equal("closureWeight", weight, p.closureWeight(0));
        }
        p.supportClosure(0, 0);
        Check.equal("closureWeight of a closed list", weight + 9, p.closureWeight(0));
        p.decide(0);
        Check.equal("closureWeight of a decided motion", weight + 9, p.closureWeight(0));
    }

    private static void entitledWeights() {
        for (int mask = 1; mask <= 15; mask++) {
            FrogParliament p = new FrogParliament();
            p.addMotion(mask);
            int weight = 0;
            for (int frog = 0; frog < 12; frog++) {
                Check.equal("entitledWeight", weight, p.entitledWeight(0));
                p.addFrog(frog % 4, 9 - frog % 9);
                weight += (mask & 1 << frog % 4) == 0 ? 0 : 9 - frog % 9;
            }
            Check.equal("entitledWeight of all", weight, p.entitledWeight(0));
        }
    }

    private static void forOrAgainst() {
        FrogParliament p = Parliaments.closed(2, 3);
        p.addMotion(15);
        Check.equal("croak for", 2, p.croak(0, 0, 1, true));
        Check.equal("croaksFor", 2, p.croaksFor(0));
        Check.equal("croaksAgainst", 0, p.croaksAgainst(0));
        Check.equal("croak against", 3, p.croak(0, 1, 1, false));
        Check.equal("croaksFor still", 2, p.croaksFor(0));
        Check.equal("croaksAgainst now", 3, p.croaksAgainst(0));
        Check.equal("croaksFor of another motion", 0, p.croaksFor(1));
        Check.equal("croaksAgainst of another motion", 0, p.croaksAgainst(1));
    }

    private static void strengths() {
        for (int weight = 1; weight <= 9; weight++) {
            for (int loudness = 1; loudness <= 9; loudness++) {
                FrogParliament p = Parliaments.closed(weight);
                Check.equal("croak", loudness * weight,
                        p.croak(0, 0, loudness, loudness % 2 == 0));
                Check.equal("both sums", loudness * weight, p.croaksFor(0) + p.croaksAgainst(0));
            }
        }
    }

    private static void loudnesses() {
        FrogParliament p = Parliaments.closed(1, 1, 1, 1, 1, 1, 1, 1, 1);
        int sum = 0;
        for (int loudness = 1; loudness <= 9; loudness++) {
            int number = loudness;
            sum += loudness;
            Check.equal("croak of loudness " + loudness, sum,
                    Observed.answer(() -> p.croak(0, number - 1, number, true)));
        }
    }

    private static void croakAnswers() {
        FrogParliament p = Parliaments.closed(9, 9, 9, 9, 9, 9, 9, 9, 9, 9, 9, 9);
        int sumFor = 0;
        int sumAgainst = 0;
        for (int frog = 0; frog < 12; frog++) {
            if (frog % 3 == 0) {
                sumAgainst += 9 * (frog % 9 + 1);
                Check.equal("croak against", sumAgainst, p.croak(0, frog, frog % 9 + 1, false));
            } else {
                sumFor += 81;
                Check.equal("croak for", sumFor, p.croak(0, frog, 9, true));
            }
        }
    }

    private static void croakOfWrongKind() {
        FrogParliament p = Parliaments.closed(5, 1);
        int[] wrong = {0, 10, 11};
        for (int loudness : wrong) {
            Check.refused(p, "croak(0, 0, " + loudness + ")", Parliaments.ARGUMENT,
                    () -> p.croak(0, 0, loudness, true));
        }
        for (int far : Parliaments.FAR) {
            Check.refused(p, "croak(0, 1, " + far + ")", Parliaments.ARGUMENT,
                    () -> p.croak(0, 1, far, false));
        }
        p.addMotion(1);
        p.supportClosure(1, 0);
        Check.refused(p, "croak of a stranger", Parliaments.ARGUMENT,
                () -> p.croak(1, 1, 1, true));
        Check.refused(p, "croak of a stranger against", Parliaments.ARGUMENT,
                () -> p.croak(1, 1, 9, false));
        Check.equal("croak(1, 0, 1)", 5, Observed.answer(() -> p.croak(1, 0, 1, true)));
        Check.equal("croak(0, 1, 9)", 9, Observed.answer(() -> p.croak(0, 1, 9, true)));
    }

    private static void croakAtWrongTime() {
        FrogParliament p = Parliaments.seated(3, 3, 1);
        Check.refused(p, "croak on an empty open list", Parliaments.STATE,
                () -> p.croak(0, 0, 1, true));
        p.signUp(0, 2);
        p.signUp(0, 1);
        Check.refused(p, "croak on an open list in use", Parliaments.STATE,
                () -> p.croak(0, 0, 1, true));
        p.supportClosure(0, 0);
        p.supportClosure(0, 1);
        Check.refused(p, "croak with two on the list", Parliaments.STATE,
                () -> p.croak(0, 0, 1, true));
        p.callNext(0);
        Check.refused(p, "croak with one on the list", Parliaments.STATE,
                () -> p.croak(0, 0, 1, false));
        Check.refused(p, "croak of the one on the list", Parliaments.STATE,
                () -> p.croak(0, 1, 1, true));
        p.strike(0, 1);
        Check.equal("croak with none on the list", 3,
                Observed.answer(() -> p.croak(0, 0, 1, true)));
        p.decide(0);
        Check.refused(p, "croak on a decided motion", Parliaments.STATE,
                () -> p.croak(0, 1, 1, true));
    }

    private static void croakFromWaterOrAgain() {
        FrogParliament p = Parliaments.closed(1, 1, 1);
        p.dive(0);
        Check.refused(p, "croak from the water", Parliaments.UNSUPPORTED,
                () -> p.croak(0, 0, 1, true));
        p.hop(0, 5);
        Check.equal("croak from a pad", 1, Observed.answer(() -> p.croak(0, 0, 1, true)));
        Check.refused(p, "croak again for", Parliaments.UNSUPPORTED,
                () -> p.croak(0, 0, 9, true));
        Check.refused(p, "croak again against", Parliaments.UNSUPPORTED,
                () -> p.croak(0, 0, 9, false));
        p.dive(0);
        Check.refused(p, "croak again from the water", Parliaments.UNSUPPORTED,
                () -> p.croak(0, 0, 9, false));
        p.croak(0, 1, 1, false);
        p.croak(0, 2, 1, true);
        Check.refused(p, "croak again of the last", Parliaments.UNSUPPORTED,
                () -> p.croak(0, 2, 1, true));
        Check.refused(p, "croak again of the middle one", Parliaments.UNSUPPORTED,
                () -> p.croak(0, 1, 1, true));
        p.addMotion(15);
        p.supportClosure(1, 1);
        p.supportClosure(1, 2);
        Check.equal("croak on another motion", 1, Observed.answer(() -> p.croak(1, 1, 1, true)));
    }

    private static void decidesOneMotion() {
        FrogParliament p = Parliaments.with(1, 1, 6);
        p.hop(0, 0);
        for (int motion = 0; motion < 6; motion++) {
            p.supportClosure(motion, 0);
        }
        for (int motion = 5; motion >= 0; motion--) {
            p.decide(motion);
            for (int other = 0; other < 6; other++) {
                Check.equal("isDecided(" + other + ")", other >= motion, p.isDecided(other));
            }
        }
    }

    private static void adoptedIfGreater() {
        Check.equal("decide without croaks", false, Parliaments.closed(1).decide(0));
        for (int loudness = 1; loudness <= 9; loudness++) {
            for (int other = 1; other <= 9; other++) {
                FrogParliament p = Parliaments.closed(2, 2);
                p.croak(0, 0, loudness, true);
                p.croak(0, 1, other, false);
                Check.equal("decide at " + loudness + " to " + other, loudness > other,
                        p.decide(0));
                Check.equal("isAdopted", loudness > other, p.isAdopted(0));
                Check.equal("isDecided", true, p.isDecided(0));
            }
        }
        FrogParliament least = Parliaments.closed(1);
        least.croak(0, 0, 1, true);
        Check.equal("decide at 1 to 0", true, least.decide(0));
    }

    private static void decideAtWrongTime() {
        FrogParliament p = Parliaments.seated(3, 3, 1);
        Check.refused(p, "decide on an empty open list", Parliaments.STATE, () -> p.decide(0));
        p.signUp(0, 2);
        p.supportClosure(0, 0);
        Check.refused(p, "decide on an open list in use", Parliaments.STATE, () -> p.decide(0));
        p.supportClosure(0, 1);
        Check.refused(p, "decide with one on the list", Parliaments.STATE, () -> p.decide(0));
        p.strike(0, 2);
        Check.equal("decide with none on the list", false, Observed.answer(() -> p.decide(0)));
        Check.refused(p, "decide again when rejected", Parliaments.STATE, () -> p.decide(0));
        p.undo();
        p.croak(0, 0, 1, true);
        Check.equal("decide after undo", true, Observed.answer(() -> p.decide(0)));
        Check.refused(p, "decide again when adopted", Parliaments.STATE, () -> p.decide(0));
    }

    private static void adoptedCount() {
        FrogParliament p = Parliaments.with(1, 1, 6);
        p.hop(0, 0);
        Check.equal("adoptedCount at first", 0, p.adoptedCount());
        int[] due = {1, 1, 2, 3, 3, 4};
        for (int motion = 0; motion < 6; motion++) {
            p.supportClosure(motion, 0);
            p.croak(motion, 0, 1, motion % 3 != 1);
            p.decide(motion);
            Check.equal("adoptedCount", due[motion], p.adoptedCount());
        }
        FrogParliament all = Parliaments.with(1, 1, 6);
        all.hop(0, 0);
        for (int motion = 5; motion >= 0; motion--) {
            all.supportClosure(motion, 0);
            all.croak(motion, 0, 9, true);
            Check.equal("adoptedCount before decide", 5 - motion, all.adoptedCount());
            all.decide(motion);
            Check.equal("adoptedCount after decide", 6 - motion, all.adoptedCount());
        }
    }

    private static void sums(Parliaments.OfOne call, boolean side) {
        FrogParliament p = Parliaments.closed(9, 8, 7, 6, 5, 4, 3, 2, 1, 9, 9, 9);
        p.addMotion(15);
        Check.equal("the sum of no croaks", 0, call.answer(p, 0));
        int sum = 0;
        for (int frog = 0; frog < 12; frog++) {
            p.croak(0, frog, 9, side);
            sum += 9 * p.weightOf(frog);
            Check.equal("the sum with all on this side", sum, call.answer(p, 0));
            Check.equal("the sum of another motion", 0, call.answer(p, 1));
        }
        p.decide(0);
        Check.equal("the sum of a decided motion", sum, call.answer(p, 0));
        FrogParliament mixed = Parliaments.closed(1, 2, 3, 4, 5, 6, 7, 8);
        int part = 0;
        for (int frog = 7; frog >= 0; frog--) {
            boolean isOnSide = frog / 2 % 2 == 0;
            mixed.croak(0, frog, 2, side == isOnSide);
            part += isOnSide ? 2 * (frog + 1) : 0;
            Check.equal("the sum with others on the other side", part, call.answer(mixed, 0));
        }
    }

    private static void strongestOnEitherSide() {
        FrogParliament p = Parliaments.closed(1, 2, 3, 4, 5);
        p.addMotion(15);
        p.croak(0, 0, 1, false);
        Check.equal("strongestFrog of one against", 0, p.strongestFrog(0));
        p.croak(0, 4, 1, true);
        Check.equal("strongestFrog for", 4, p.strongestFrog(0));
        p.croak(0, 2, 2, false);
        Check.equal("strongestFrog against", 2, p.strongestFrog(0));
        p.croak(0, 3, 1, true);
        Check.equal("strongestFrog after a weaker one", 2, p.strongestFrog(0));
        p.croak(0, 1, 4, true);
        Check.equal("strongestFrog by loudness", 1, p.strongestFrog(0));
        p.dive(1);
        Check.equal("strongestFrog in the water", 1, p.strongestFrog(0));
        p.decide(0);
        Check.equal("strongestFrog of a decided motion", 1, p.strongestFrog(0));
    }

    private static void firstOfTheStrongest() {
        FrogParliament p = Parliaments.closed(1, 2, 3, 6, 1, 1);
        p.croak(0, 4, 1, true);
        p.croak(0, 3, 1, false);
        p.croak(0, 1, 3, true);
        p.croak(0, 2, 2, false);
        p.croak(0, 0, 6, true);
        Check.equal("strongestFrog of four", 3, p.strongestFrog(0));
        for (int undone = 0; undone < 4; undone++) {
            p.undo();
        }
        p.croak(0, 0, 6, true);
        p.croak(0, 3, 1, false);
        Check.equal("strongestFrog in another order", 0, p.strongestFrog(0));
        FrogParliament all = Parliaments.closed(9, 9, 9, 9, 9, 9, 9, 9, 9, 9, 9, 9);
        for (int frog = 11; frog >= 0; frog--) {
            all.croak(0, frog, 9, frog % 2 == 0);
            Check.equal("strongestFrog of all as strong", 11, all.strongestFrog(0));
        }
    }

    private static void noCroak(Class<?> due, Parliaments.OfOne call) {
        FrogParliament p = Parliaments.seated(3, 1);
        p.addMotion(15);
        Check.refused(p, "the call on an open list", due, () -> call.answer(p, 0));
        Parliaments.close(p, 0);
        Check.refused(p, "the call on a closed list", due, () -> call.answer(p, 0));
        p.decide(0);
        Check.refused(p, "the call on a decided motion", due, () -> call.answer(p, 0));
        Parliaments.close(p, 1);
        p.croak(1, 1, 1, false);
        Check.notRefused("the call with a croak against", due, () -> call.answer(p, 1));
        Check.refused(p, "the call with a croak elsewhere", due, () -> call.answer(p, 0));
        p.undo();
        Check.refused(p, "the call with the croak undone", due, () -> call.answer(p, 1));
        p.croak(1, 1, 1, true);
        Check.notRefused("the call with a croak for", due, () -> call.answer(p, 1));
    }

    private static void shares() {
        FrogParliament p = Parliaments.closed(7, 3, 1);
        p.croak(0, 1, 1, false);
        Check.equal("shareFor of none for", 0.0f, p.shareFor(0));
        p.croak(0, 0, 1, true);
        Check.equal("shareFor of 7 in 10", 7.0f / 10.0f, p.shareFor(0));
        p.croak(0, 2, 3, true);
        Check.equal("shareFor of 10 in 13", 10.0f / 13.0f, p.shareFor(0));
        FrogParliament all = Parliaments.closed(9, 9, 9, 9, 9, 9, 9, 9, 9, 9, 9, 9);
        for (int frog = 0; frog < 12; frog++) {
            all.croak(0, frog, 9, true);
            Check.equal("shareFor of all for", 1.0f, all.shareFor(0));
        }
        FrogParliament one = Parliaments.closed(1, 9, 9, 9, 9, 9, 9, 9, 9, 9, 9, 9);
        one.croak(0, 0, 1, true);
        for (int frog = 1; frog < 12; frog++) {
            one.croak(0, frog, 9, false);
            Check.equal("shareFor of 1", 1.0f / (float) (1 + 81 * frog), one.shareFor(0));
        }
    }

    /** The four invariants, each by the calls that it names, in parliaments empty and full. */
    private static void invariants() {
        checkInvariants(new FrogParliament());
        FrogParliament p = Parliaments.with(12, 6, 6);
        checkInvariants(p);
        for (int frog = 0; frog < 12; frog++) {
            p.hop(frog, frog / 3);
            for (int motion = 0; motion < 6; motion++) {
                p.signUp(motion, (frog * 5 + motion) % 12);
            }
            checkInvariants(p);
        }
        p.dive(4);
        for (int motion = 0; motion < 6; motion++) {
            while (p.listLength(motion) > motion % 2) {
                p.callNext(motion);
                checkInvariants(p);
            }
            Parliaments.close(p, motion);
        }
        for (int frog = 0; frog < 12; frog++) {
            for (int motion = 0; motion < 6; motion += 2) {
                int[] numbers = {motion, frog};
                Observed.answer(() -> p.croak(numbers[0], numbers[1], 9, numbers[1] % 5 != 0));
            }
            checkInvariants(p);
        }
    }

    private static void checkInvariants(FrogParliament p) {
        Check.equal("sittingCountBySet", p.sittingCount(), p.sittingCountBySet());
        int spoken = 0;
        for (int motion = 0; motion < p.motionCount(); motion++) {
            int m = motion;
            Check.equal("nextFrogByScan", Observed.answer(() -> p.nextFrog(m)),
                    Observed.answer(() -> p.nextFrogByScan(m)));
            Check.equal("croaksForByPonds", p.croaksFor(motion), p.croaksForByPonds(motion));
            spoken += p.speechesOn(motion);
        }
        Check.equal("speechTotal", spoken, p.speechTotal());
        Check.equal("isConsistent", true, p.isConsistent());
    }

    private static void isConsistent() {
        Check.equal("isConsistent of a new object", true,
                Observed.answer(() -> new FrogParliament().isConsistent()));
        FrogParliament p = Parliaments.seated(1, 2, 3, 4);
        Check.equal("isConsistent with an empty list", true,
                Observed.answer(() -> p.isConsistent()));
        p.addMotion(3);
        p.signUp(1, 1);
        p.signUp(1, 0);
        Check.equal("isConsistent with a list beside an empty one", true,
                Observed.answer(() -> p.isConsistent()));
        p.callNext(1);
        p.callNext(1);
        Parliaments.close(p, 1);
        p.croak(1, 0, 9, true);
        p.croak(1, 1, 9, false);
        Check.equal("isConsistent with croaks", true, Observed.answer(() -> p.isConsistent()));
        p.undo();
        p.save();
        p.dive(2);
        Check.equal("isConsistent after undo", true, Observed.answer(() -> p.isConsistent()));
        p.restore();
        Check.equal("isConsistent after restore", true, Observed.answer(() -> p.isConsistent()));
    }
}
