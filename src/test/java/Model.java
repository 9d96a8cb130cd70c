import java.util.ArrayDeque;
import java.util.ArrayList;
import java.util.Deque;
import java.util.List;
import java.util.Set;
import java.util.TreeSet;
import java.util.regex.Matcher;
import java.util.regex.Pattern;

/**
 * A second reading of the document, in other words than the class: objects that are copied whole,
 * and a regular expression for the command text. It answers a call by its name and numbers.
 */
final class Model {
    private static final Pattern TEXT = pattern();
    private static final String INDEX = "IndexOutOfBoundsException";
    private static final String ARGUMENT = "IllegalArgumentException";
    private static final String STATE = "IllegalStateException";
    private static final String UNSUPPORTED = "UnsupportedOperationException";
    private static final String ELEMENT = "NoSuchElementException";
    private static final String ARITHMETIC = "ArithmeticException";

    private World world = new World();
    private World snapshot = null;
    private final Deque<World> past = new ArrayDeque<>();
    private String text = "";
    private String line = "";
    private Object errorPosition = ELEMENT;
    private Object failedCommand = ELEMENT;

    private static Pattern pattern() {
        String number = "[0-9][0-9]?";
        String command = "(frog [0-9][0-9]|pad [0-9]|hop N [0-9]|dive N|motion N|list [0-9] N"
                + "|strike [0-9] N|call [0-9]|end [0-9] N|croak [0-9] N[+-][0-9]|decide [0-9])";
        String whole = command + "(;" + command + ")*";
        return Pattern.compile(whole.replace("N", number));
    }

    private static final class Frog {
        int number;
        int pond;
        int weight;
        Integer pad;
        int speeches;
    }

    private static final class Croak {
        Frog frog;
        int strength;
        boolean isFor;
    }

    private static final class Question {
        int ponds;
        List<Frog> list = new ArrayList<>();
        Set<Integer> supporters = new TreeSet<>();
        boolean closed;
        String verdict = "open";
        List<Croak> croaks = new ArrayList<>();
        int speeches;

        int sum(boolean side) {
            return croaks.stream().filter(c -> c.isFor == side).mapToInt(c -> c.strength).sum();
        }
    }

    private static final class World {
        List<Frog> frogs = new ArrayList<>();
        List<Integer> pads = new ArrayList<>();
        List<Question> motions = new ArrayList<>();
        int missed;

        World copy() {
            World w = new World();
            for (Frog f : frogs) {
                Frog g = new Frog();
                g.number = f.number;
                g.pond = f.pond;
                g.weight = f.weight;
                g.pad = f.pad;
                g.speeches = f.speeches;
                w.frogs.add(g);
            }
            w.pads.addAll(pads);
            for (Question q : motions) {
                w.motions.add(copy(q, w.frogs));
            }
            w.missed = missed;
            return w;
        }

        private static Question copy(Question q, List<Frog> frogs) {
            Question r = new Question();
            r.ponds = q.ponds;
            q.list.forEach(f -> r.list.add(frogs.get(f.number)));
            r.supporters.addAll(q.supporters);
            r.closed = q.closed;
            r.verdict = q.verdict;
            for (Croak c : q.croaks) {
                Croak d = new Croak();
                d.frog = frogs.get(c.frog.number);
                d.strength = c.strength;
                d.isFor = c.isFor;
                r.croaks.add(d);
            }
            r.speeches = q.speeches;
            return r;
        }

        long on(int pad) {
            return frogs.stream().filter(f -> f.pad != null && f.pad == pad).count();
        }

        boolean entitled(Question q, Frog f) {
            return (q.ponds & (1 << f.pond)) != 0;
        }

        int entitledWeight(Question q) {
            return frogs.stream().filter(f -> entitled(q, f)).mapToInt(f -> f.weight).sum();
        }

        int supportWeight(Question q) {
            return q.supporters.stream().mapToInt(n -> frogs.get(n).weight).sum();
        }

        List<Frog> callOrder(Question q) {
            List<Frog> order = new ArrayList<>(q.list);
            order.sort((a, b) -> Integer.compare(a.speeches, b.speeches));
            return order;
        }
    }

    /** What a call answers; the changes are kept for undo. */
    Object answer(String call, int[] n) {
        World before = world.copy();
        Object answer = change(call, n);
        if (answer == null) {
            return query(call, n);
        }
        if (answer instanceof String) {
            world = before;
        } else {
            remember(before);
        }
        return answer;
    }

    private void remember(World before) {
        past.addLast(before);
        if (past.size() > 8) {
            past.removeFirst();
        }
    }

    /** The answer of a change, the name of its exception, or null for a call that is none. */
    private Object change(String call, int[] n) {
        switch (call) {
            case "addFrog": return addFrog(n[0], n[1]);
            case "addPad": return addPad(n[0]);
            case "hop": return hop(n[0], n[1]);
            case "dive": return dive(n[0]);
            case "addMotion": return addMotion(n[0]);
            case "signUp": return signUp(n[0], n[1]);
            case "strike": return strike(n[0], n[1]);
            case "callNext": return callNext(n[0]);
            case "supportClosure": return supportClosure(n[0], n[1]);
            case "croak": return croak(n[0], n[1], n[2], n[3] == 1);
            case "decide": return decide(n[0]);
            case "run": return run();
            default: return null;
        }
    }

    private boolean noFrog(int frog) {
        return frog < 0 || frog >= world.frogs.size();
    }

    private boolean noPad(int pad) {
        return pad < 0 || pad >= world.pads.size();
    }

    private boolean noMotion(int motion) {
        return motion < 0 || motion >= world.motions.size();
    }

    private static boolean outside(int value, int least, int most) {
        return value < least || value > most;
    }

    private Object addFrog(int pond, int weight) {
        if (outside(pond, 0, 3)) return INDEX;
        if (outside(weight, 1, 9)) return ARGUMENT;
        if (world.frogs.size() == 12) return STATE;
        Frog frog = new Frog();
        frog.number = world.frogs.size();
        frog.pond = pond;
        frog.weight = weight;
        world.frogs.add(frog);
        return frog.number;
    }

    private Object addPad(int capacity) {
        if (outside(capacity, 1, 4)) return ARGUMENT;
        if (world.pads.size() == 6) return STATE;
        world.pads.add(capacity);
        return world.pads.size() - 1;
    }

    private Object hop(int frog, int pad) {
        if (noFrog(frog) || noPad(pad)) return INDEX;
        Frog f = world.frogs.get(frog);
        if (f.pad != null && f.pad == pad) return STATE;
        if (world.on(pad) == world.pads.get(pad)) return STATE;
        f.pad = pad;
        return (int) world.on(pad);
    }

    private Object dive(int frog) {
        if (noFrog(frog)) return INDEX;
        Integer pad = world.frogs.get(frog).pad;
        if (pad == null) return STATE;
        world.frogs.get(frog).pad = null;
        return pad;
    }

    private Object addMotion(int ponds) {
        if (outside(ponds, 1, 15)) return ARGUMENT;
        if (world.motions.size() == 6) return STATE;
        Question q = new Question();
        q.ponds = ponds;
        world.motions.add(q);
        return world.motions.size() - 1;
    }

    private Object signUp(int motion, int frog) {
        if (noMotion(motion) || noFrog(frog)) return INDEX;
        Question q = world.motions.get(motion);
        Frog f = world.frogs.get(frog);
        if (!world.entitled(q, f)) return ARGUMENT;
        if (!q.verdict.equals("open") || q.closed) return STATE;
        if (q.list.contains(f)) return UNSUPPORTED;
        q.list.add(f);
        return q.list.size();
    }

    private Object strike(int motion, int frog) {
        if (noMotion(motion) || noFrog(frog)) return INDEX;
        Question q = world.motions.get(motion);
        if (!q.list.remove(world.frogs.get(frog))) return ELEMENT;
        return q.list.size();
    }

    private Object callNext(int motion) {
        if (noMotion(motion)) return INDEX;
        Question q = world.motions.get(motion);
        if (q.list.isEmpty()) return ELEMENT;
        Frog f = world.callOrder(q).get(0);
        q.list.remove(f);
        if (f.pad == null) {
            world.missed++;
            return false;
        }
        f.speeches++;
        q.speeches++;
        return true;
    }

    private Object supportClosure(int motion, int frog) {
        if (noMotion(motion) || noFrog(frog)) return INDEX;
        Question q = world.motions.get(motion);
        Frog f = world.frogs.get(frog);
        if (!world.entitled(q, f)) return ARGUMENT;
        if (!q.verdict.equals("open") || q.closed) return STATE;
        if (f.pad == null) return UNSUPPORTED;
        q.supporters.add(frog);
        q.closed = 2 * world.supportWeight(q) > world.entitledWeight(q);
        return q.closed;
    }

    private Object croak(int motion, int frog, int loudness, boolean isFor) {
        if (noMotion(motion) || noFrog(frog)) return INDEX;
        Question q = world.motions.get(motion);
        Frog f = world.frogs.get(frog);
        if (outside(loudness, 1, 9) || !world.entitled(q, f)) return ARGUMENT;
        if (!q.verdict.equals("open") || !q.closed || !q.list.isEmpty()) return STATE;
        if (f.pad == null || q.croaks.stream().anyMatch(c -> c.frog == f)) return UNSUPPORTED;
        Croak c = new Croak();
        c.frog = f;
        c.strength = loudness * f.weight;
        c.isFor = isFor;
        q.croaks.add(c);
        return q.sum(isFor);
    }

    private Object decide(int motion) {
        if (noMotion(motion)) return INDEX;
        Question q = world.motions.get(motion);
        if (!q.verdict.equals("open") || !q.closed || !q.list.isEmpty()) return STATE;
        q.verdict = q.sum(true) > q.sum(false) ? "adopted" : "rejected";
        return q.verdict.equals("adopted");
    }

    private Object run() {
        String typed = text;
        text = "";
        if (!TEXT.matcher(typed).matches()) {
            errorPosition = firstWrong(typed);
            return ARGUMENT;
        }
        String[] commands = typed.split(";");
        for (int i = 0; i < commands.length; i++) {
            if (command(commands[i]) instanceof String) {
                failedCommand = i;
                return STATE;
            }
        }
        return commands.length;
    }

    private static int firstWrong(String typed) {
        for (int end = 1; end <= typed.length(); end++) {
            Matcher matcher = TEXT.matcher(typed.substring(0, end));
            if (!matcher.matches() && !matcher.hitEnd()) {
                return end - 1;
            }
        }
        return typed.length();
    }

    private Object command(String command) {
        String[] words = command.split("[ +-]");
        int[] n = new int[4];
        for (int i = 1; i < words.length; i++) {
            n[i - 1] = Integer.parseInt(words[i]);
        }
        switch (words[0]) {
            case "frog": return change("addFrog", new int[] {n[0] / 10, n[0] % 10});
            case "pad": return change("addPad", n);
            case "motion": return change("addMotion", n);
            case "list": return change("signUp", n);
            case "call": return change("callNext", n);
            case "end": return change("supportClosure", n);
            case "croak":
                n[3] = command.indexOf('+') >= 0 ? 1 : 0;
                return change("croak", n);
            default: return change(words[0], n);
        }
    }

    private Object query(String call, int[] n) {
        switch (call) {
            case "append": return append((char) n[0]);
            case "errorPosition": return errorPosition;
            case "failedCommand": return failedCommand;
            case "describeList": return describeList(n[0]);
            case "lineAt": return outside(n[0], 0, line.length() - 1) ? INDEX : line.charAt(n[0]);
            case "undo":
                if (past.isEmpty()) return STATE;
                world = past.removeLast();
                return past.size();
            case "save":
                snapshot = world.copy();
                return world.motions.size();
            case "restore":
                if (snapshot == null) return STATE;
                world = snapshot.copy();
                past.clear();
                return world.motions.size();
            default: return total(call, n);
        }
    }

    private Object append(char character) {
        if (character < ' ' || character > '~') return ARGUMENT;
        if (text.length() == 60) return STATE;
        text += character;
        return text.length();
    }

    private Object describeList(int motion) {
        if (noMotion(motion)) return INDEX;
        Question q = world.motions.get(motion);
        List<String> names = new ArrayList<>();
        world.callOrder(q).forEach(f -> names.add(f.number + (f.pad == null ? "~" : "")));
        line = String.join(",", names) + (q.closed ? "|" : "");
        return line.length();
    }

    private Object total(String call, int[] n) {
        List<Frog> sitting = new ArrayList<>(world.frogs);
        sitting.removeIf(f -> f.pad == null);
        switch (call) {
            case "frogCount": return world.frogs.size();
            case "padCount": return world.pads.size();
            case "motionCount": return world.motions.size();
            case "sittingCount":
            case "sittingCountBySet": return sitting.size();
            case "meanSittingWeight":
                if (sitting.isEmpty()) return ARITHMETIC;
                return (double) sitting.stream().mapToInt(f -> f.weight).sum() / sitting.size();
            case "speechTotal": return world.frogs.stream().mapToInt(f -> f.speeches).sum();
            case "missedTotal": return world.missed;
            case "adoptedCount":
                return (int) world.motions.stream().filter(q -> q.verdict.equals("adopted")).count();
            case "isConsistent": return true;
            case "frogAtRank": return frogAtRank(n[0]);
            case "frogsOn": return noPad(n[0]) ? INDEX : (Object) (int) world.on(n[0]);
            case "padWeight":
                sitting.removeIf(f -> f.pad != n[0]);
                return noPad(n[0]) ? INDEX
                        : (Object) sitting.stream().mapToInt(f -> f.weight).sum();
            default: return ofFrog(call, n);
        }
    }

    private Object frogAtRank(int rank) {
        List<Frog> ranked = new ArrayList<>(world.frogs);
        ranked.sort((a, b) -> a.speeches != b.speeches ? b.speeches - a.speeches
                : b.weight - a.weight);
        return outside(rank, 0, ranked.size() - 1) ? ELEMENT : (Object) ranked.get(rank).number;
    }

    private Object ofFrog(String call, int[] n) {
        if (!List.of("pondOf", "weightOf", "padOf", "speeches").contains(call)) {
            return ofMotion(call, n);
        }
        if (noFrog(n[0])) return INDEX;
        Frog f = world.frogs.get(n[0]);
        switch (call) {
            case "pondOf": return f.pond;
            case "weightOf": return f.weight;
            case "speeches": return f.speeches;
            default: return f.pad == null ? ELEMENT : (Object) f.pad;
        }
    }

    private Object ofMotion(String call, int[] n) {
        if (noMotion(n[0])) return INDEX;
        Question q = world.motions.get(n[0]);
        switch (call) {
            case "isEntitled":
                return noFrog(n[1]) ? INDEX : (Object) world.entitled(q, world.frogs.get(n[1]));
            case "listLength": return q.list.size();
            case "nextFrog":
            case "nextFrogByScan":
                return q.list.isEmpty() ? ELEMENT : (Object) world.callOrder(q).get(0).number;
            case "frogsBefore":
                if (noFrog(n[1])) return INDEX;
                int before = world.callOrder(q).indexOf(world.frogs.get(n[1]));
                return before < 0 ? ELEMENT : (Object) before;
            case "speechesOn": return q.speeches;
            case "isListClosed": return q.closed;
            case "closureWeight": return world.supportWeight(q);
            case "entitledWeight": return world.entitledWeight(q);
            case "isDecided": return !q.verdict.equals("open");
            case "isAdopted": return q.verdict.equals("adopted");
            case "croaksFor":
            case "croaksForByPonds": return q.sum(true);
            case "croaksAgainst": return q.sum(false);
            case "strongestFrog":
                return q.croaks.stream().max((a, b) -> a.strength != b.strength
                        ? a.strength - b.strength : q.croaks.indexOf(b) - q.croaks.indexOf(a))
                        .map(c -> (Object) c.frog.number).orElse(ELEMENT);
            case "shareFor":
                if (q.croaks.isEmpty()) return ARITHMETIC;
                return (float) q.sum(true) / (float) (q.sum(true) + q.sum(false));
            default: throw new AssertionError(call);
        }
    }
}
