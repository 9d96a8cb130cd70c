import java.util.Objects;

/** Counts and prints what is not as due. */
final class Check {
    private static int checks = 0;
    private static int wrong = 0;
    private static String place = "";

    private Check() {
    }

    /** A call whose answer is looked at. */
    interface Call {
        Object answer();
    }

    /** Names what is looked at from now on, ahead of all that is printed. */
    static void lookAt(String what) {
        place = what;
    }

    static int count() {
        return checks;
    }

    static void equal(String what, Object due, Object got) {
        checks++;
        if (!Objects.equals(due, got)) {
            wrong++;
            System.out.println(place + what + " answered " + got + ", due is " + due);
        }
    }

    /** The call throws exactly this exception, no class below it, and nothing differs afterwards. */
    static void refused(FrogParliament parliament, String what, Class<?> due, Call call) {
        String before = Observed.state(parliament) + Observed.rest(parliament);
        equal(what, due.getSimpleName(), Observed.answer(call));
        equal("the state after " + what, before,
                Observed.state(parliament) + Observed.rest(parliament));
    }

    /** The call throws, but not this exception, or does not throw at all. */
    static void notRefused(String what, Class<?> ruledOut, Call call) {
        notRefusedAs(what, ruledOut.getSimpleName(), Observed.answer(call));
    }

    static void notRefusedAs(String what, String ruledOut, Object answer) {
        equal(what + " throws " + ruledOut, false, ruledOut.equals(answer));
    }

    /** Prints the outcome, and ends the program with exit code 1 if something was wrong. */
    static void end(String name) {
        System.out.println(name + ": " + checks + " checks, " + wrong + " wrong");
        if (wrong != 0 || checks == 0) {
            System.exit(1);
        }
    }
}
