/** What the queries of a parliament answer, as one text, so that states can be compared. */
final class Observed {
    private Observed() {
    }

    /** The answer of a call, or the simple name of the exception that it throws. */
    static Object answer(Check.Call call) {
        try {
            return call.answer();
        } catch (RuntimeException thrown) {
            return thrown.getClass().getSimpleName();
        }
    }

    /** All that is undone, saved and restored. */
    static String state(FrogParliament p) {
        StringBuilder all = new StringBuilder();
        all.append("frogs ").append(p.frogCount()).append(" pads ").append(p.padCount());
        all.append(" motions ").append(p.motionCount());
        all.append(" sitting ").append(p.sittingCount()).append('=').append(p.sittingCountBySet());
        all.append(" mean ").append(answer(() -> p.meanSittingWeight()));
        all.append(" totals ").append(p.speechTotal()).append(' ').append(p.missedTotal());
        all.append(' ').append(p.adoptedCount()).append(' ').append(p.isConsistent());
        for (int f = 0; f < p.frogCount(); f++) {
            int frog = f;
            all.append("\nfrog ").append(p.pondOf(frog)).append(' ').append(p.weightOf(frog));
            all.append(' ').append(answer(() -> p.padOf(frog))).append(' ').append(p.speeches(frog));
            all.append(" rank ").append(p.frogAtRank(frog));
        }
        for (int pad = 0; pad < p.padCount(); pad++) {
            all.append("\npad ").append(p.frogsOn(pad)).append(' ').append(p.padWeight(pad));
        }
        for (int motion = 0; motion < p.motionCount(); motion++) {
            all.append("\nmotion").append(motion(p, motion));
        }
        return all.toString();
    }

    private static String motion(FrogParliament p, int motion) {
        StringBuilder all = new StringBuilder();
        all.append(' ').append(p.isDecided(motion)).append(' ').append(p.isAdopted(motion));
        all.append(' ').append(p.isListClosed(motion)).append(' ').append(p.listLength(motion));
        all.append(' ').append(answer(() -> p.nextFrog(motion)));
        all.append(' ').append(answer(() -> p.nextFrogByScan(motion)));
        all.append(' ').append(p.closureWeight(motion)).append(' ').append(p.entitledWeight(motion));
        all.append(' ').append(p.croaksFor(motion)).append('=').append(p.croaksForByPonds(motion));
        all.append(' ').append(p.croaksAgainst(motion)).append(' ').append(p.speechesOn(motion));
        all.append(' ').append(answer(() -> p.strongestFrog(motion)));
        all.append(' ').append(answer(() -> p.shareFor(motion)));
        for (int f = 0; f < p.frogCount(); f++) {
            int frog = f;
            all.append(' ').append(p.isEntitled(motion, frog));
            all.append('/').append(answer(() -> p.frogsBefore(motion, frog)));
        }
        return all.toString();
    }

    /** The error position, the failed command and the line, which are neither undone nor saved. */
    static String rest(FrogParliament p) {
        return "\nerror " + answer(() -> p.errorPosition())
                + " failed " + answer(() -> p.failedCommand()) + " line " + line(p);
    }

    /**
     * All that calls can still tell of it, but for the rest: what undo and restore bring back, and
     * how it takes calls of every kind. The parliament is of no use afterwards.
     */
    static String whole(FrogParliament p) {
        StringBuilder all = new StringBuilder(state(p));
        Object left = answer(() -> p.undo());
        while (left instanceof Integer) {
            all.append("\nundo ").append(left).append(' ').append(state(p));
            left = answer(() -> p.undo());
        }
        all.append("\nrestore ").append(answer(() -> p.restore())).append(' ').append(state(p));
        return all.append(probe(p)).toString();
    }

    /** The answers to calls of every kind, which show what no query tells, and the state behind. */
    static String probe(FrogParliament p) {
        StringBuilder all = new StringBuilder("\nprobe");
        for (int f = 0; f < p.frogCount(); f++) {
            for (int number = 0; number < 6; number++) {
                int frog = f;
                int n = number;
                all.append(' ').append(answer(() -> p.hop(frog, n)));
                all.append(' ').append(answer(() -> p.signUp(n, frog)));
                all.append(' ').append(answer(() -> p.supportClosure(n, frog)));
            }
        }
        for (int f = 0; f < p.frogCount(); f++) {
            for (int motion = 0; motion < 6; motion++) {
                int frog = f;
                int m = motion;
                all.append(' ').append(answer(() -> p.strike(m, frog)));
                all.append(' ').append(answer(() -> p.croak(m, frog, 2, frog % 3 > 0)));
                all.append(' ').append(answer(() -> p.callNext(m)));
            }
        }
        all.append(' ').append(answer(() -> p.addFrog(0, 1)));
        all.append(' ').append(answer(() -> p.addPad(1)));
        all.append(' ').append(answer(() -> p.addMotion(1)));
        return all.append(state(p)).toString();
    }

    static String line(FrogParliament p) {
        StringBuilder line = new StringBuilder();
        while (true) {
            Object character = answer(() -> p.lineAt(line.length()));
            if (!(character instanceof Character)) {
                return line.toString();
            }
            line.append(character);
        }
    }
}
