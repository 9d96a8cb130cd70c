import java.util.ArrayList;
import java.util.List;
import java.util.function.Supplier;

/** The sentences on changes, undo and the snapshot: terms, and promises 52 to 54. */
final class ChangeSentences {
    private static final int MAX_CHANGES = 8;

    private ChangeSentences() {
    }

    static void test(Sentences document) {
        changes(document);
        undo(document);
        snapshot(document);
    }

    private static void changes(Sentences document) {
        document.holds(0, "A change is a successful call of addFrog, addPad, hop, dive, addMotion,"
                + " signUp, strike, callNext, supportClosure, croak, decide or run.",
                ChangeSentences::whatIsAChange);
        document.holds(0, "A successful call is a change even if nothing differs afterwards.",
                ChangeSentences::changesWithoutDifference);
        document.holds(0, "A call of run that carries out several commands is one change.",
                ChangeSentences::runIsOneChange);
        document.holds(0, "The latest 8 changes can be undone, the latest one first.",
                ChangeSentences::latestEight);
        document.holds(0, "The command text, the error position, the failed command, and the line"
                + " are neither undone nor saved.", ChangeSentences::neitherUndoneNorSaved);
        document.holds(0, "Everything else is.", ChangeSentences::everythingElse);
    }

    private static void undo(Sentences document) {
        document.holds(52, "Undoes the latest change that has not been undone.",
                ChangeSentences::latestNotUndone);
        document.holds(52, "Returns the number of changes that can still be undone.",
                ChangeSentences::changesLeft);
        document.holds(52, "Throws `IllegalStateException` if there is no change to undo",
                ChangeSentences::nothingToUndo);
    }

    private static void snapshot(Sentences document) {
        document.holds(53, "Saves everything that changes can change as the snapshot, replacing an"
                + " earlier snapshot.", ChangeSentences::saves);
        document.holds(53, "Returns the number of motions.", ChangeSentences::savedMotions);
        document.holds(54, "Restores the snapshot, which is kept.", ChangeSentences::restores);
        document.holds(54, "After the call no change can be undone.",
                ChangeSentences::noUndoAfterRestore);
        document.holds(54, "Returns the number of motions.", ChangeSentences::restoredMotions);
        document.holds(54, "Throws `IllegalStateException` if there is no snapshot",
                ChangeSentences::noSnapshot);
    }

    private static Object run(FrogParliament p, String text) {
        return Parliaments.run(p, text);
    }

    /** A session in which every kind of change happens, and every one succeeds. */
    private static List<Parliaments.Step> session() {
        List<Parliaments.Step> steps = new ArrayList<>();
        steps.add(p -> p.addPad(2));
        steps.add(p -> p.addFrog(0, 5));
        steps.add(p -> p.addFrog(1, 4));
        steps.add(p -> p.addFrog(2, 3));
        steps.add(p -> p.hop(0, 0));
        steps.add(p -> p.hop(1, 0));
        steps.add(p -> p.addMotion(7));
        steps.add(p -> p.addMotion(3));
        steps.add(p -> p.signUp(0, 2));
        steps.add(p -> p.signUp(0, 0));
        steps.add(p -> p.signUp(1, 1));
        steps.add(p -> p.callNext(0));
        steps.add(p -> p.callNext(1));
        steps.add(p -> p.signUp(1, 0));
        steps.add(p -> p.signUp(1, 1));
        steps.add(p -> p.strike(1, 0));
        steps.add(p -> p.supportClosure(0, 0));
        steps.add(p -> p.supportClosure(0, 0));
        addEnd(steps);
        return steps;
    }

    private static void addEnd(List<Parliaments.Step> steps) {
        steps.add(p -> p.addPad(4));
        steps.add(p -> p.hop(2, 1));
        steps.add(p -> p.supportClosure(0, 2));
        steps.add(p -> p.callNext(0));
        steps.add(p -> p.croak(0, 0, 3, true));
        steps.add(p -> p.croak(0, 2, 9, false));
        steps.add(p -> p.dive(2));
        steps.add(p -> p.croak(0, 1, 4, true));
        steps.add(p -> p.decide(0));
        steps.add(p -> p.callNext(1));
        steps.add(p -> p.hop(0, 1));
        steps.add(p -> p.supportClosure(1, 0));
        steps.add(p -> p.croak(1, 1, 1, false));
        steps.add(p -> p.decide(1));
        steps.add(p -> p.addFrog(3, 9));
        steps.add(p -> p.addMotion(8));
        steps.add(p -> p.hop(3, 1));
        steps.add(p -> p.signUp(2, 3));
        steps.add(p -> run(p, "pad 3;dive 3;call 2"));
    }

    /** Other changes than the session's, eight at most. */
    private static int makeOthers(FrogParliament p) {
        List<Parliaments.Step> others = List.of(q -> q.addPad(1), q -> q.addFrog(3, 2), q -> q.addMotion(8),
                q -> q.hop(q.frogCount() - 1, q.padCount() - 1),
                q -> q.signUp(q.motionCount() - 1, q.frogCount() - 1),
                q -> q.callNext(q.motionCount() - 1),
                q -> q.supportClosure(q.motionCount() - 1, q.frogCount() - 1),
                q -> q.croak(q.motionCount() - 1, q.frogCount() - 1, 9, true));
        int made = 0;
        for (Parliaments.Step step : others) {
            made += Observed.answer(() -> step.answer(p)) instanceof String ? 0 : 1;
        }
        return made;
    }

    private static FrogParliament after(int steps) {
        FrogParliament p = new FrogParliament();
        make(p, session().subList(0, steps));
        return p;
    }

    /** What the session answers, and the states behind its steps, from this step on. */
    private static String replay(FrogParliament p, int from) {
        StringBuilder all = new StringBuilder();
        List<Parliaments.Step> steps = session();
        for (Parliaments.Step step : steps.subList(from, steps.size())) {
            all.append("\nstep ").append(Observed.answer(() -> step.answer(p)));
            all.append(' ').append(Observed.state(p));
        }
        return all.toString();
    }

    private static void whatIsAChange() {
        int steps = session().size();
        for (int step = 0; step < steps; step++) {
            FrogParliament p = after(step);
            p.save();
            p.restore();
            Object answer = session().get(step).answer(p);
            Check.equal("step " + step + " is refused", false, answer instanceof String);
            Check.equal("undo of step " + step, 0, Observed.answer(() -> p.undo()));
            Check.refused(p, "undo of more", Parliaments.STATE, () -> p.undo());
        }
        FrogParliament p = ExceptionSentences.full();
        p.save();
        p.restore();
        queries(p);
        Check.refused(p, "undo of queries", Parliaments.STATE, () -> p.undo());
        p.supportClosure(4, 5);
        queries(p);
        Check.equal("undo past queries", 0, Observed.answer(() -> p.undo()));
    }

    /** Calls on the full parliament that are no changes, and changes that are refused there. */
    private static void queries(FrogParliament p) {
        Observed.state(p);
        Observed.rest(p);
        p.describeList(0);
        p.listLength(0);
        p.save();
        ExceptionSentences.makeRefusedCalls(p);
        run(p, "pad 1;pad 0");
        run(p, "pad");
        p.append('p');
        run(p, "x");
    }

    private static void changesWithoutDifference() {
        FrogParliament p = Parliaments.seated(3, 3);
        p.supportClosure(0, 0);
        p.save();
        p.restore();
        String state = Observed.state(p);
        for (int change = 1; change <= 10; change++) {
            p.supportClosure(0, 0);
            Check.equal("the state after the same", state, Observed.state(p));
            int left = Math.min(change, MAX_CHANGES) - 1;
            Check.equal("undo of the same", left, p.undo());
            Check.equal("the state after undo", state, Observed.state(p));
            p.supportClosure(0, 0);
        }
        FrogParliament running = Parliaments.with(1, 1, 1);
        running.save();
        running.restore();
        String before = Observed.state(running);
        run(running, "hop 0 0;dive 0");
        Check.equal("the state after a run to and fro", before, Observed.state(running));
        run(running, "list 0 0;strike 0 0");
        Check.equal("the state after another", before, Observed.state(running));
        Check.equal("undo of runs to and fro", 1, Observed.answer(() -> running.undo()));
        Check.equal("undo of the first", 0, Observed.answer(() -> running.undo()));
    }

    private static void runIsOneChange() {
        String text = "pad 1;pad 2;pad 3;frog 12;frog 23;hop 0 0;hop 1 1;motion 6";
        for (int commands = 1; commands <= 8; commands++) {
            String[] parts = java.util.Arrays.copyOf(text.split(";"), commands);
            FrogParliament p = new FrogParliament();
            p.addMotion(15);
            String before = Observed.state(p);
            Check.equal("run", commands, run(p, String.join(";", parts)));
            Check.equal("undo of " + commands + " commands", 1, Observed.answer(() -> p.undo()));
            Check.equal("the state after undo", before, Observed.state(p));
            for (int change = 0; change < 3; change++) {
                run(p, "frog 01;pad 1");
            }
            Check.equal("undo after more runs", 3, Observed.answer(() -> p.undo()));
        }
    }

    private static void latestEight() {
        for (int changes = 0; changes <= 30; changes++) {
            FrogParliament p = Parliaments.with(1, 6, 0);
            p.save();
            p.restore();
            List<String> states = new ArrayList<>();
            for (int change = 0; change < changes; change++) {
                states.add(Observed.state(p));
                p.hop(0, change % 5 + change / 5 % 2);
            }
            int most = Math.min(changes, MAX_CHANGES);
            for (int undone = 1; undone <= most; undone++) {
                Check.equal("undo after " + changes, most - undone,
                        Observed.answer(() -> p.undo()));
                Check.equal("the state", states.get(changes - undone), Observed.state(p));
            }
            Check.refused(p, "undo of the 9th of " + changes, Parliaments.STATE, () -> p.undo());
        }
    }

    private static FrogParliament withRest() {
        FrogParliament p = Parliaments.seated(5, 4, 3);
        p.signUp(0, 2);
        p.save();
        p.signUp(0, 1);
        p.describeList(0);
        run(p, "pad x");
        run(p, "hop 0 1;pad 9");
        Parliaments.type(p, "motion ");
        return p;
    }

    private static void neitherUndoneNorSaved() {
        FrogParliament undone = withRest();
        for (int left = MAX_CHANGES - 1; left >= 0; left--) {
            undone.undo();
            checkRest("after undo", undone);
        }
        Check.equal("append after undo", 8, undone.append('1'));
        Check.equal("run after undo", 1, Observed.answer(() -> undone.run()));
        FrogParliament restored = withRest();
        restored.restore();
        checkRest("after restore", restored);
        Check.equal("append after restore", 8, restored.append('1'));
        Check.equal("run after restore", 1, Observed.answer(() -> restored.run()));
        FrogParliament saved = withRest();
        saved.save();
        saved.describeList(0);
        saved.callNext(0);
        saved.describeList(0);
        run(saved, "~");
        run(saved, "pad 9");
        Parliaments.type(saved, "dive 1");
        saved.restore();
        Check.equal("the line after restore", "1", Observed.line(saved));
        Check.equal("errorPosition after restore", 7, saved.errorPosition());
        Check.equal("failedCommand after restore", 0, saved.failedCommand());
        Check.equal("the text after restore", 1, Observed.answer(() -> saved.run()));
        FrogParliament run = withRest();
        run.append('1');
        run.run();
        run.undo();
        Check.equal("the text after undo of run", 1, run.append('p'));
    }

    private static void checkRest(String what, FrogParliament p) {
        Check.equal("the line " + what, "2,1", Observed.line(p));
        Check.equal("errorPosition " + what, 4, Observed.answer(() -> p.errorPosition()));
        Check.equal("failedCommand " + what, 1, Observed.answer(() -> p.failedCommand()));
    }

    private static void everythingElse() {
        int steps = session().size();
        for (int step = 0; step <= steps; step++) {
            String due = replay(after(step), step);
            FrogParliament p = after(step);
            String state = Observed.state(p);
            for (int made = makeOthers(p); made > 0; made--) {
                p.undo();
            }
            Check.equal("the state after undo at " + step, state, Observed.state(p));
            Check.equal("the session after undo at " + step, due, replay(p, step));
            FrogParliament saved = after(step);
            saved.save();
            makeOthers(saved);
            replay(saved, step);
            saved.restore();
            Check.equal("the state after restore at " + step, state, Observed.state(saved));
            Check.equal("the session after restore at " + step, due, replay(saved, step));
            saved.restore();
            makeOthers(saved);
            saved.restore();
            Check.equal("the whole after restore at " + step, Observed.probe(after(step)),
                    Observed.probe(saved));
        }
        restoredOverOthers();
    }

    /** The last of each kind is in the snapshot, and another bears its number when it is restored. */
    private static void restoredOverOthers() {
        Supplier<FrogParliament> few = () -> Parliaments.with(11, 5, 5);
        restoredOver(few, List.of(p -> p.addFrog(3, 9)), List.of(p -> p.addFrog(1, 2)));
        restoredOver(few, List.of(p -> p.addPad(1)), List.of(p -> p.addPad(3)));
        restoredOver(few, List.of(p -> p.addMotion(5)), List.of(p -> p.addMotion(10)));
        Supplier<FrogParliament> seated =
                () -> Parliaments.seated(1, 1, 1, 1, 1, 1, 1, 1, 1, 1, 1, 1);
        restoredOver(seated, List.of(p -> p.dive(11), p -> p.dive(10), p -> p.hop(11, 5)),
                List.of(p -> p.dive(0), p -> p.hop(11, 0)));
        restoredOver(seated, List.of(p -> p.signUp(0, 11), p -> p.callNext(0)),
                List.of(p -> p.signUp(0, 10), p -> p.callNext(0)));
        restoredOver(ChangeSentences::withTenListed,
                List.of(p -> p.signUp(0, 10), p -> p.signUp(0, 11)),
                List.of(p -> p.signUp(0, 11), p -> p.signUp(0, 10)));
        restoredOver(ChangeSentences::withTenCroaks,
                List.of(p -> p.croak(0, 10, 9, true), p -> p.croak(0, 11, 8, false)),
                List.of(p -> p.croak(0, 11, 5, true), p -> p.croak(0, 10, 4, false)));
    }

    private static FrogParliament withTenListed() {
        FrogParliament p = Parliaments.seated(1, 1, 1, 1, 1, 1, 1, 1, 1, 1, 1, 1);
        for (int frog = 0; frog < 10; frog++) {
            p.signUp(0, frog);
        }
        return p;
    }

    private static FrogParliament withTenCroaks() {
        FrogParliament p = Parliaments.closed(9, 9, 9, 9, 9, 9, 9, 9, 9, 9, 9, 9);
        for (int frog = 0; frog < 10; frog++) {
            p.croak(0, frog, 1, frog % 2 == 0);
        }
        return p;
    }

    /** These changes are saved and undone, the others made, and the snapshot restored. */
    private static void restoredOver(Supplier<FrogParliament> start,
            List<Parliaments.Step> changes, List<Parliaments.Step> others) {
        FrogParliament due = start.get();
        make(due, changes);
        FrogParliament p = start.get();
        make(p, changes);
        p.save();
        for (int change = 0; change < changes.size(); change++) {
            p.undo();
        }
        Check.equal("the state undone", Observed.state(start.get()), Observed.state(p));
        make(p, others);
        p.restore();
        Check.equal("the state restored over others", Observed.state(due), Observed.state(p));
        Check.equal("the answers restored over others", Observed.probe(due), Observed.probe(p));
    }

    private static void make(FrogParliament p, List<Parliaments.Step> changes) {
        for (Parliaments.Step change : changes) {
            Object answer = Observed.answer(() -> change.answer(p));
            Check.equal("a change is refused", false, answer instanceof String);
        }
    }

    private static void latestNotUndone() {
        FrogParliament p = new FrogParliament();
        for (int frog = 0; frog < 5; frog++) {
            p.addFrog(frog % 4, 1);
        }
        p.undo();
        Check.equal("frogCount after undo", 4, p.frogCount());
        p.undo();
        Check.equal("frogCount after two", 3, p.frogCount());
        p.addPad(1);
        p.undo();
        Check.equal("padCount after a new change undone", 0, p.padCount());
        Check.equal("frogCount after a new change undone", 3, p.frogCount());
        p.undo();
        Check.equal("frogCount after one more", 2, p.frogCount());
        p.addMotion(1);
        p.addPad(2);
        p.undo();
        Check.equal("motionCount", 1, p.motionCount());
        p.undo();
        Check.equal("motionCount after all", 0, p.motionCount());
        Check.equal("frogCount after all", 2, p.frogCount());
    }

    private static void changesLeft() {
        FrogParliament p = Parliaments.with(1, 2, 0);
        for (int change = 0; change < 20; change++) {
            p.hop(0, change % 2);
        }
        for (int left = 7; left >= 4; left--) {
            Check.equal("undo", left, Observed.answer(() -> p.undo()));
        }
        p.dive(0);
        Check.equal("undo of a new change", 4, Observed.answer(() -> p.undo()));
        for (int change = 0; change < 3; change++) {
            p.addFrog(0, 1);
        }
        Check.equal("undo after three changes", 6, Observed.answer(() -> p.undo()));
        for (int change = 0; change < 5; change++) {
            p.addFrog(0, 1);
        }
        for (int left = 7; left >= 0; left--) {
            Check.equal("undo", left, Observed.answer(() -> p.undo()));
        }
        FrogParliament one = new FrogParliament();
        one.addPad(1);
        Check.equal("undo of the only change", 0, Observed.answer(() -> one.undo()));
    }

    private static void nothingToUndo() {
        FrogParliament p = new FrogParliament();
        Check.refused(p, "undo of a new object", Parliaments.STATE, () -> p.undo());
        Observed.answer(() -> p.addPad(0));
        Check.refused(p, "undo after a refused call", Parliaments.STATE, () -> p.undo());
        p.addPad(1);
        p.undo();
        Check.refused(p, "undo after undo", Parliaments.STATE, () -> p.undo());
        p.save();
        Check.refused(p, "undo after save", Parliaments.STATE, () -> p.undo());
        p.addPad(1);
        p.restore();
        Check.refused(p, "undo after restore", Parliaments.STATE, () -> p.undo());
        for (int frog = 0; frog < 10; frog++) {
            p.addFrog(0, 1);
        }
        for (int undone = 0; undone < 8; undone++) {
            Check.notRefused("undo", Parliaments.STATE, () -> p.undo());
        }
        Check.refused(p, "undo of the 9th", Parliaments.STATE, () -> p.undo());
        Check.equal("frogCount", 2, p.frogCount());
    }

    private static void saves() {
        FrogParliament p = new FrogParliament();
        p.save();
        p.addFrog(0, 5);
        p.restore();
        Check.equal("frogCount of the empty snapshot", 0, p.frogCount());
        p.addFrog(1, 4);
        p.addPad(2);
        p.save();
        p.hop(0, 0);
        p.addMotion(15);
        String later = Observed.state(p);
        p.save();
        Check.equal("the state after save", later, Observed.state(p));
        p.dive(0);
        p.addFrog(2, 2);
        p.restore();
        Check.equal("the state of the later snapshot", later, Observed.state(p));
        p.signUp(0, 0);
        p.undo();
        p.save();
        p.signUp(0, 0);
        p.restore();
        Check.equal("the state of a snapshot after undo", later, Observed.state(p));
        p.addMotion(1);
        p.save();
        Check.equal("undo after save", 0, Observed.answer(() -> p.undo()));
        p.restore();
        Check.equal("motionCount of a snapshot after which was undone", 2, p.motionCount());
    }

    private static void savedMotions() {
        for (int motions = 0; motions <= 6; motions++) {
            FrogParliament p = Parliaments.with(2, 1, motions);
            Check.equal("save", motions, Observed.answer(() -> p.save()));
            Check.equal("save again", motions, Observed.answer(() -> p.save()));
        }
    }

    private static void restores() {
        FrogParliament p = after(24);
        String due = Observed.state(p);
        p.save();
        for (int round = 0; round < 4; round++) {
            makeOthers(p);
            replay(p, 24);
            p.restore();
            Check.equal("the state restored", due, Observed.state(p));
            p.restore();
            Check.equal("the state restored at once again", due, Observed.state(p));
        }
        FrogParliament empty = new FrogParliament();
        empty.save();
        replay(empty, 0);
        empty.restore();
        Check.equal("the session after restore of an empty snapshot",
                replay(new FrogParliament(), 0), replay(empty, 0));
    }

    private static void noUndoAfterRestore() {
        for (int changes = 0; changes <= 10; changes++) {
            FrogParliament p = Parliaments.with(1, 1, 0);
            p.save();
            for (int change = 0; change < changes; change++) {
                p.addFrog(0, 1);
            }
            p.restore();
            Check.refused(p, "undo after restore", Parliaments.STATE, () -> p.undo());
            p.addMotion(1);
            Check.equal("undo of a change after restore", 0, Observed.answer(() -> p.undo()));
            Check.equal("frogCount", 1, p.frogCount());
            Check.refused(p, "undo of more", Parliaments.STATE, () -> p.undo());
        }
    }

    private static void restoredMotions() {
        for (int motions = 0; motions <= 6; motions++) {
            FrogParliament p = Parliaments.with(2, 1, motions);
            p.save();
            if (motions == 6) {
                p.undo();
            } else {
                p.addMotion(3);
            }
            Check.equal("restore", motions, Observed.answer(() -> p.restore()));
            Check.equal("restore again", motions, Observed.answer(() -> p.restore()));
        }
    }

    private static void noSnapshot() {
        FrogParliament other = new FrogParliament();
        other.save();
        FrogParliament p = new FrogParliament();
        Check.refused(p, "restore of a new object", Parliaments.STATE, () -> p.restore());
        p.addMotion(1);
        p.addFrog(0, 1);
        p.undo();
        Check.refused(p, "restore without save", Parliaments.STATE, () -> p.restore());
        Check.equal("undo after a refused restore", 0, Observed.answer(() -> p.undo()));
        p.save();
        Check.equal("restore after save", 0, Observed.answer(() -> p.restore()));
    }
}
