/** What the queries of a parliament answer, as one text, so that states can be compared. */
final class Observed {
    private Observed() {
    }

    /** The answer of a call, or the simple name of the exception that it throws. */
    static Object answer(Check.Call call) {
        try {
            return call.answer();
        } catch (RuntimeException thrown) {
            return thrown.getClass().getSimpleName();
        }
    }

    /** All that is undone, saved and restored. */
    static String state(FrogParliament p) {
        StringBuilder all = new StringBuilder();
        all.append("frogs ").append(p.frogCount()).append(" pads ").append(p.padCount());
        all.append(" motions ").append(p.motionCount());
        all.append(" sitting ").append(p.sittingCount()).append('=').append(p.sittingCountBySet());
        all.append(" mean ").append(answer(() -> p.meanSittingWeight()));
        all.append(" totals ").append(p.speechTotal()).append(' ').append(p.missedTotal());
        all.append(' ').append(p.adoptedCount()).append(' ').append(p.isConsistent());
        for (int f = 0; f < p.frogCount(); f++) {
            int frog = f;
            all.append("\nfrog ").append(p.pondOf(frog)).append(' ').append(p.weightOf(frog));
            all.append(' ').append(answer(() -> p.padOf(frog))).append(' ').append(p.speeches(frog));
            all.append(" rank ").append(p.frogAtRank(frog));
        }
        for (int pad = 0; pad < p.padCount(); pad++) {
            all.append("\npad ").append(p.frogsOn(pad)).append(' ').append(p.padWeight(pad));
        }
        for (int motion = 0; motion < p.motionCount(); motion++) {
            all.append("\nmotion").append(motion(p, motion));
        }
        return all.toString();
    }

    private static String motion(FrogParliament p, int motion) {
        StringBuilder all = new StringBuilder();
        all.append(' ').append(p.isDecided(motion)).append(' ').append(p.isAdopted(motion));
        all.append(' ').append(p.isListClosed(motion)).append(' ').append(p.listLength(motion));
        all.append(' ').append(answer(() -> p.nextFrog(motion)));
        all.append(' ').append(answer(() -> p.nextFrogByScan(motion)));
        all.append(' ').append(p.closureWeight(motion)).append(' ').append(p.entitledWeight(motion));
        all.append(' ').append(p.croaksFor(motion)).append('=').append(p.croaksForByPonds(motion));
        all.append(' ').append(p.croaksAgainst(motion)).append(' ').append(p.speechesOn(motion));
        all.append(' ').append(answer(() -> p.strongestFrog(motion)));
        all.append(' ').append(answer(() -> p.shareFor(motion)));
        for (int f = 0; f < p.frogCount(); f++) {
            int frog = f;
            all.append(' ').append(p.isEntitled(motion, frog));
            all.append('/').append(answer(() -> p.frogsBefore(motion, frog)));
        }
        return all.toString();
    }

    /** The error position, the failed command and the line, which are neither undone nor saved. */
    static String rest(FrogParliament p) {
        return "\nerror " + answer(() -> p.errorPosition())
                + " failed " + answer(() -> p.failedCommand()) + " line " + line(p);
    }

    static String line(FrogParliament p) {
        StringBuilder line = new StringBuilder();
        while (true) {
            Object character = answer(() -> p.lineAt(line.length()));
            if (!(character instanceof Character)) {
                return line.toString();
            }
            line.append(character);
        }
    }
}
