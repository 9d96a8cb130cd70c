import java.lang.reflect.InvocationTargetException;
import java.lang.reflect.Method;
import java.util.Arrays;
import java.util.Comparator;
import java.util.Random;

/** Runs of 512 calls, the same at every start, each call compared with what Model answers. */
public final class ManyRunsTest {
    private static final int RUNS = 3000;
    private static final int CALLS = 512;
    private static final int[] FAR = {-1, 16, 127, 65535, Integer.MIN_VALUE, Integer.MAX_VALUE};

    private final Random random;
    private final Method[] methods;
    private FrogParliament parliament;
    private Model model;
    private int calls;

    private ManyRunsTest(long seed) {
        random = new Random(seed);
        methods = FrogParliament.class.getMethods();
        Arrays.sort(methods, Comparator.comparing(Method::getName));
    }

    public static void main(String[] args) throws Exception {
        ManyRunsTest test = new ManyRunsTest(20261119L);
        for (int run = 0; run < RUNS; run++) {
            test.oneRun(run);
        }
        Check.end("ManyRunsTest");
    }

    private void oneRun(int run) throws Exception {
        parliament = new FrogParliament();
        model = new Model();
        calls = 0;
        if (run % 8 != 0) {
            prepare(run);
        }
        while (calls < CALLS) {
            int kind = random.nextInt(1000);
            if (kind < 700) {
                change(run);
            } else if (kind < 705) {
                runText(run);
            } else if (kind < 960) {
                query(run);
            } else if (kind < 975) {
                drive(run, motion());
            } else if (kind < 990) {
                compare(run, "undo");
            } else {
                compare(run, kind < 995 ? "save" : "restore");
            }
        }
    }

    /** Without some frogs on pads and motions most runs would not come to croaks. */
    private void prepare(int run) throws Exception {
        int frogs = 2 + random.nextInt(11);
        int pads = 2 + random.nextInt(5);
        for (int pad = 0; pad < pads; pad++) {
            compare(run, "addPad", 1 + random.nextInt(4));
        }
        for (int frog = 0; frog < frogs; frog++) {
            compare(run, "addFrog", random.nextInt(4), 1 + random.nextInt(9));
            compare(run, "hop", frog, random.nextInt(pads));
        }
        for (int motion = random.nextInt(4); motion >= 0; motion--) {
            compare(run, "addMotion", random.nextInt(3) > 0 ? 15 : 1 + random.nextInt(15));
        }
    }

    /** Takes a motion some way to its end: closure, calls, croaks, decision. */
    private void drive(int run, int motion) throws Exception {
        int steps = 1 + random.nextInt(4);
        for (int frog = 0; frog < 12; frog++) {
            compare(run, "supportClosure", motion, frog);
        }
        for (int turn = random.nextInt(8); steps > 1 && turn >= 0; turn--) {
            compare(run, "nextFrog", motion);
            compare(run, "callNext", motion);
        }
        for (int croak = random.nextInt(12); steps > 2 && croak >= 0; croak--) {
            compare(run, "croak", motion, random.nextInt(12), from1(9), random.nextInt(2));
            compare(run, "strongestFrog", motion);
            compare(run, "shareFor", motion);
        }
        if (steps > 3) {
            compare(run, "decide", motion);
        }
        compare(run, "describeList", motion);
    }

    private int number(int most) {
        return random.nextInt(60) == 0 ? FAR[random.nextInt(FAR.length)] : random.nextInt(most + 1);
    }

    private int from1(int most) {
        return random.nextInt(30) == 0 ? number(most + 2) : 1 + random.nextInt(most);
    }

    private int frog() {
        return number(random.nextInt(3) == 0 ? 12 : 6);
    }

    private int motion() {
        return number(random.nextInt(5) == 0 ? 6 : 2);
    }

    private void change(int run) throws Exception {
        switch (random.nextInt(20)) {
            case 0: compare(run, "addFrog", number(3), from1(9)); break;
            case 1: compare(run, "addPad", from1(4)); break;
            case 2: case 3: case 4: compare(run, "hop", frog(), number(5)); break;
            case 5: compare(run, "dive", frog()); break;
            case 6: compare(run, "addMotion", random.nextInt(2) == 0 ? 15 : from1(15)); break;
            case 7: case 8: case 9: compare(run, "signUp", motion(), frog()); break;
            case 10: compare(run, "strike", motion(), frog()); break;
            case 11: case 12: case 13: case 14: compare(run, "callNext", motion()); break;
            case 15: compare(run, "supportClosure", motion(), frog()); break;
            case 16: case 17: case 18:
                compare(run, "croak", motion(), frog(), from1(9), random.nextInt(2));
                break;
            default:
                if (random.nextInt(4) == 0) {
                    compare(run, "decide", motion());
                }
        }
    }

    private void query(int run) throws Exception {
        Method method = methods[random.nextInt(methods.length)];
        Class<?>[] types = method.getParameterTypes();
        boolean isOfFace = method.getDeclaringClass() == FrogParliament.class;
        if (!isOfFace || method.getName().equals("restore") || method.getName().equals("append")) {
            return;
        }
        int[] numbers = new int[types.length];
        for (int i = 0; i < types.length; i++) {
            numbers[i] = types[i] == boolean.class ? random.nextInt(2) : frog();
        }
        if (types.length > 0 && random.nextInt(2) == 0) {
            numbers[0] = motion();
        }
        compare(run, method.getName(), numbers);
    }

    private void runText(int run) throws Exception {
        StringBuilder text = new StringBuilder();
        int commands = 1 + random.nextInt(3);
        for (int i = 0; i < commands; i++) {
            text.append(i == 0 ? "" : ";").append(command());
        }
        if (random.nextInt(3) == 0) {
            spoil(text);
        }
        for (int i = 0; i < text.length() && calls < CALLS; i++) {
            compare(run, "append", text.charAt(i));
        }
        compare(run, "run");
        compare(run, "errorPosition");
        compare(run, "failedCommand");
    }

    private void spoil(StringBuilder text) {
        String signs = "0123456789 ;+-fpadhoivemtnlsrkc~\n";
        int at = random.nextInt(text.length());
        char sign = signs.charAt(random.nextInt(signs.length()));
        switch (random.nextInt(5)) {
            case 0: text.deleteCharAt(at); break;
            case 1: text.insert(at, sign); break;
            case 2: text.setCharAt(at, sign); break;
            case 3: text.setLength(at); break;
            default: text.append(sign); break;
        }
    }

    private String command() {
        int motion = random.nextInt(random.nextInt(10) == 0 ? 10 : 2);
        int low = random.nextInt(random.nextInt(10) == 0 ? 100 : 6);
        String frog = (low < 10 && random.nextInt(5) == 0 ? "0" : "") + low;
        int digit = random.nextInt(10);
        switch (random.nextInt(14)) {
            case 0: return "frog " + random.nextInt(4) + digit;
            case 1: return "pad " + random.nextInt(5);
            case 2: case 3: return "hop " + frog + " " + random.nextInt(4);
            case 4: return "dive " + frog;
            case 5: return "motion " + (random.nextInt(2) == 0 ? "15" : random.nextInt(20));
            case 6: case 7: return "list " + motion + " " + frog;
            case 8: return "strike " + motion + " " + frog;
            case 9: return "call " + motion;
            case 10: return "end " + motion + " " + frog;
            case 11: case 12:
                return "croak " + motion + " " + frog + (random.nextBoolean() ? "+" : "-") + digit;
            default: return "decide " + motion;
        }
    }

    private void compare(int run, String name, int... numbers) throws Exception {
        if (calls == CALLS) {
            return;
        }
        calls++;
        Object due = model.answer(name, Arrays.copyOf(numbers, 4));
        String what = "run " + run + ", call " + calls + ", " + name + Arrays.toString(numbers);
        Check.equal(what, due, call(name, numbers));
        if (!parliament.isConsistent()) {
            Check.equal("isConsistent after " + what, true, false);
        }
    }

    private Object call(String name, int[] numbers) throws Exception {
        Method method = null;
        for (Method candidate : methods) {
            if (candidate.getName().equals(name)
                    && candidate.getParameterCount() == numbers.length) {
                method = candidate;
            }
        }
        Class<?>[] types = method.getParameterTypes();
        Object[] values = new Object[numbers.length];
        for (int i = 0; i < numbers.length; i++) {
            values[i] = types[i] == boolean.class ? (Object) (numbers[i] == 1)
                    : types[i] == char.class ? (Object) (char) numbers[i] : (Object) numbers[i];
        }
        try {
            return method.invoke(parliament, values);
        } catch (InvocationTargetException thrown) {
            return thrown.getCause().getClass().getSimpleName();
        }
    }
}
