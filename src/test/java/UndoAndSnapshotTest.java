import java.util.ArrayList;
import java.util.List;

/** Promises 52 to 54, and what the document says of changes. */
public final class UndoAndSnapshotTest {
    private static final Class<?> STATE = IllegalStateException.class;

    public static void main(String[] args) {
        undoOfEveryChange();
        latestEight();
        undoAfterUndo();
        failuresAreNoChanges();
        changesThatDiffer();
        aRunIsOneChange();
        restOfTheState();
        saveAndRestore();
        undoAndSnapshot();
        numbersAreUsedAgain();
        restoreOverOthers();
        Check.end("UndoAndSnapshotTest");
    }

    private static void type(FrogParliament p, String text) {
        for (int i = 0; i < text.length(); i++) {
            p.append(text.charAt(i));
        }
    }

    private static void undoOfEveryChange() {
        FrogParliament p = new FrogParliament();
        List<Check.Call> changes = new ArrayList<>();
        changes.add(() -> p.addFrog(0, 5));
        changes.add(() -> p.addFrog(1, 3));
        changes.add(() -> p.addPad(2));
        changes.add(() -> p.addPad(2));
        changes.add(() -> p.hop(0, 0));
        changes.add(() -> p.hop(0, 1));
        changes.add(() -> p.hop(1, 1));
        changes.add(() -> p.addMotion(3));
        changes.add(() -> p.signUp(0, 0));
        changes.add(() -> p.signUp(0, 1));
        changes.add(() -> p.strike(0, 0));
        changes.add(() -> p.callNext(0));
        changes.add(() -> p.signUp(0, 1));
        changes.add(() -> p.dive(1));
        changes.add(() -> p.callNext(0));
        changes.add(() -> p.supportClosure(0, 0));
        changes.add(() -> p.croak(0, 0, 2, true));
        changes.add(() -> p.decide(0));
        for (int change = 0; change < changes.size(); change++) {
            String before = Observed.state(p);
            changes.get(change).answer();
            String after = Observed.state(p);
            Check.equal("change " + change + " differs", false, before.equals(after));
            Check.equal("undo of " + change, Math.min(change, 7), p.undo());
            Check.equal("the state after undo of " + change, before, Observed.state(p));
            changes.get(change).answer();
            Check.equal("the state when done again", after, Observed.state(p));
        }
    }

    private static void latestEight() {
        for (int changes = 0; changes <= 12; changes++) {
            FrogParliament p = new FrogParliament();
            List<String> states = new ArrayList<>();
            for (int change = 0; change < changes; change++) {
                states.add(Observed.state(p));
                p.addFrog(change % 4, 1);
            }
            int left = Math.min(changes, 8);
            for (int change = changes - 1; left > 0; change--) {
                left--;
                Check.equal("undo", left, p.undo());
                Check.equal("the state after undo", states.get(change), Observed.state(p));
            }
            Check.refused(p, "undo with nothing left", STATE, () -> p.undo());
            Check.equal("frogCount", Math.max(0, changes - 8), p.frogCount());
        }
    }

    private static void undoAfterUndo() {
        FrogParliament p = new FrogParliament();
        for (int frog = 0; frog < 10; frog++) {
            p.addFrog(0, 1);
        }
        Check.equal("undo", 7, p.undo());
        Check.equal("undo", 6, p.undo());
        p.addPad(1);
        Check.equal("undo of a new change", 6, p.undo());
        p.addPad(1);
        p.addPad(1);
        p.addPad(1);
        Check.equal("undo", 7, p.undo());
        for (int left = 6; left >= 0; left--) {
            Check.equal("undo", left, p.undo());
        }
        Check.equal("frogCount", 3, p.frogCount());
        Check.refused(p, "undo with nothing left", STATE, () -> p.undo());
        p.addPad(2);
        Check.equal("undo", 0, p.undo());
        Check.equal("padCount", 0, p.padCount());
    }

    private static void failuresAreNoChanges() {
        FrogParliament p = new FrogParliament();
        p.addFrog(0, 1);
        Observed.answer(() -> p.addFrog(4, 1));
        Observed.answer(() -> p.dive(0));
        Observed.answer(() -> p.decide(0));
        type(p, "pad 1;pad 0");
        Observed.answer(() -> p.run());
        type(p, "pad");
        Observed.answer(() -> p.run());
        p.frogAtRank(0);
        p.save();
        Check.equal("undo past failures and queries", 0, p.undo());
        Check.equal("frogCount", 0, p.frogCount());
    }

    private static void changesThatDiffer() {
        FrogParliament p = new FrogParliament();
        p.addPad(1);
        p.addFrog(0, 1);
        p.addFrog(0, 9);
        p.addMotion(1);
        p.hop(0, 0);
        p.supportClosure(0, 0);
        String before = Observed.state(p);
        p.supportClosure(0, 0);
        Check.equal("the state after the same again", before, Observed.state(p));
        Check.equal("undo of a change without a difference", 6, p.undo());
        Check.equal("the state after this undo", before, Observed.state(p));
        Check.equal("undo", 5, p.undo());
        Check.equal("closureWeight", 0, p.closureWeight(0));
    }

    private static void aRunIsOneChange() {
        FrogParliament p = new FrogParliament();
        p.addPad(3);
        String before = Observed.state(p);
        type(p, "frog 01;frog 12;motion 3;hop 0 0;list 0 1;pad 1;call 0");
        Check.equal("run", 7, p.run());
        String after = Observed.state(p);
        Check.equal("undo of a run", 1, p.undo());
        Check.equal("the state after undo of a run", before, Observed.state(p));
        type(p, "frog 01;frog 12;motion 3;hop 0 0;list 0 1;pad 1;call 0");
        Check.equal("run again", 7, p.run());
        Check.equal("the state after the run", after, Observed.state(p));
        for (int change = 0; change < 7; change++) {
            p.addFrog(0, 1);
        }
        for (int left = 7; left > 0; left--) {
            Check.equal("undo", left, p.undo());
        }
        Check.equal("the state after the run", after, Observed.state(p));
        Check.equal("undo of the run", 0, p.undo());
        Check.equal("the state before the run", before, Observed.state(p));
    }

    private static void restOfTheState() {
        FrogParliament p = new FrogParliament();
        p.save();
        p.addFrog(0, 1);
        p.addMotion(1);
        p.signUp(0, 0);
        p.describeList(0);
        type(p, "pad x");
        Observed.answer(() -> p.run());
        type(p, "pad 1;pad 9");
        Observed.answer(() -> p.run());
        type(p, "pad");
        String rest = Observed.rest(p);
        p.undo();
        Check.equal("the rest after undo", rest, Observed.rest(p));
        Check.equal("the text after undo", 4, p.append(' '));
        p.restore();
        Check.equal("the rest after restore", rest, Observed.rest(p));
        Check.equal("the text after restore", 5, p.append('1'));
        Check.equal("run after restore", 1, p.run());
        p.undo();
        Check.equal("the text after undo of a run", 1, p.append('p'));
    }

    private static void saveAndRestore() {
        FrogParliament p = new FrogParliament();
        Check.refused(p, "restore without a snapshot", STATE, () -> p.restore());
        Check.equal("save", 0, p.save());
        p.addMotion(1);
        p.addMotion(3);
        p.addFrog(0, 4);
        p.addPad(1);
        p.hop(0, 0);
        p.signUp(1, 0);
        p.callNext(1);
        p.signUp(1, 0);
        p.supportClosure(0, 0);
        p.croak(0, 0, 3, false);
        String saved = Observed.state(p);
        Check.equal("save again", 2, p.save());
        Check.equal("the state after save", saved, Observed.state(p));
        p.decide(0);
        p.callNext(1);
        p.addMotion(15);
        p.addFrog(3, 1);
        p.dive(0);
        Check.equal("restore", 2, p.restore());
        Check.equal("the state after restore", saved, Observed.state(p));
        Check.refused(p, "undo after restore", STATE, () -> p.undo());
        p.decide(0);
        p.strike(1, 0);
        Check.equal("undo after restore and two changes", 1, p.undo());
        Check.equal("restore again", 2, p.restore());
        Check.equal("the state after restore again", saved, Observed.state(p));
        Check.refused(p, "undo after restore again", STATE, () -> p.undo());
    }

    private static void undoAndSnapshot() {
        FrogParliament p = new FrogParliament();
        p.addFrog(0, 1);
        p.save();
        Check.equal("undo after save", 0, p.undo());
        Check.equal("frogCount", 0, p.frogCount());
        p.addPad(1);
        Check.equal("restore after undo", 0, p.restore());
        Check.equal("frogCount", 1, p.frogCount());
        Check.equal("padCount", 0, p.padCount());
        p.addMotion(1);
        p.undo();
        Check.equal("restore of a kept snapshot", 0, p.restore());
        Check.equal("frogCount", 1, p.frogCount());
    }

    private static void numbersAreUsedAgain() {
        FrogParliament p = new FrogParliament();
        p.addPad(1);
        p.addFrog(0, 4);
        p.addMotion(1);
        p.hop(0, 0);
        p.signUp(0, 0);
        p.callNext(0);
        p.supportClosure(0, 0);
        p.croak(0, 0, 3, true);
        p.decide(0);
        for (int change = 0; change < 8; change++) {
            p.undo();
        }
        Check.equal("padCount", 1, p.padCount());
        p.addFrog(2, 3);
        p.addMotion(4);
        Check.equal("speeches of the new frog", 0, p.speeches(0));
        Check.equal("sittingCount with the new frog", 0, p.sittingCount());
        Check.equal("sittingCountBySet with the new frog", 0, p.sittingCountBySet());
        Check.equal("isDecided of the new motion", false, p.isDecided(0));
        Check.equal("isAdopted of the new motion", false, p.isAdopted(0));
        Check.equal("isListClosed of the new motion", false, p.isListClosed(0));
        Check.equal("closureWeight of the new motion", 0, p.closureWeight(0));
        Check.equal("croaksFor of the new motion", 0, p.croaksFor(0));
        Check.equal("speechesOn of the new motion", 0, p.speechesOn(0));
        Check.equal("listLength of the new motion", 0, p.listLength(0));
        Check.equal("isConsistent", true, p.isConsistent());
    }

    /** After undo other frogs, pads and motions bear the numbers of those in the snapshot. */
    private static void restoreOverOthers() {
        FrogParliament p = new FrogParliament();
        p.addFrog(0, 5);
        p.addPad(2);
        p.addMotion(1);
        p.save();
        String saved = Observed.state(p);
        for (int change = 0; change < 3; change++) {
            p.undo();
        }
        p.addFrog(3, 2);
        p.addPad(1);
        p.addMotion(14);
        p.restore();
        Check.equal("the state after restore over others", saved, Observed.state(p));
        p.addFrog(0, 1);
        p.hop(0, 0);
        Check.equal("hop on a restored pad", 2, p.hop(1, 0));
        p.supportClosure(0, 0);
        p.croak(0, 0, 3, true);
        p.croak(0, 1, 9, false);
        p.save();
        saved = Observed.state(p);
        p.undo();
        p.undo();
        p.croak(0, 1, 8, true);
        p.croak(0, 0, 2, false);
        p.restore();
        Check.equal("the state after restore over other croaks", saved, Observed.state(p));
    }
}
