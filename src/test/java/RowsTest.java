import java.lang.reflect.Constructor;
import java.lang.reflect.InvocationTargetException;
import java.lang.reflect.Method;
import java.util.Arrays;

/**
 * The rows inside the class look at their index themselves (rule 7 of ../shared/LANGUAGE.md). No run
 * of calls fills them beyond their end, so they are reached from here by reflection.
 */
public final class RowsTest {
    private static final int FROGS = 12;

    public static void main(String[] args) {
        list();
        croaks();
        queue();
        numbers();
        Check.end("RowsTest");
    }

    private static void list() {
        Row motion = new Row("Motion");
        Check.equal("clearPlace(0) of an empty list", null, motion.call("clearPlace", 0));
        for (int frog = 0; frog <= FROGS; frog++) {
            Check.equal("addToList, time " + frog, null, motion.call("addToList", frog));
        }
        Check.equal("the place of the last frog", FROGS - 1, motion.call("placeOf", FROGS - 1));
        Check.equal("the place of one frog more", -1, motion.call("placeOf", FROGS));
        for (int place : new int[] {-1, FROGS, Integer.MIN_VALUE, Integer.MAX_VALUE}) {
            Check.equal("clearPlace " + place, null, motion.call("clearPlace", place));
        }
        Check.equal("the last frog is still there", FROGS - 1, motion.call("placeOf", FROGS - 1));
    }

    private static void croaks() {
        Row motion = new Row("Motion");
        for (int frog = 0; frog <= FROGS; frog++) {
            Check.equal("addCroak, time " + frog, null, motion.call("addCroak", frog, 2, true));
        }
        Check.equal("the sum of all that have room", 2 * FROGS, motion.call("sumOfSide", true));
    }

    private static void queue() {
        Row queue = new Row("SpeakerQueue");
        Check.equal("takeFirst of an empty queue", -1, queue.call("takeFirst"));
        for (int place = 0; place <= FROGS; place++) {
            Check.equal("put, time " + place, null, queue.call("put", 1, place, place));
        }
        for (int frog = 0; frog < FROGS; frog++) {
            Check.equal("takeFirst, time " + frog, frog, queue.call("takeFirst"));
        }
        Check.equal("takeFirst of an emptied queue", -1, queue.call("takeFirst"));
    }

    private static void numbers() {
        Row command = new Row("Command");
        for (int number = 0; number < 6; number++) {
            Check.equal("addNumber, time " + number, null, command.call("addNumber", number));
        }
    }

    /** An object of a class inside FrogParliament. */
    private static final class Row {
        private final Object row;

        private Row(String name) {
            try {
                Constructor<?> constructor =
                        Class.forName("FrogParliament$" + name).getDeclaredConstructor();
                constructor.setAccessible(true);
                row = constructor.newInstance();
            } catch (ReflectiveOperationException e) {
                throw new AssertionError(name, e);
            }
        }

        /** What the method returns (null for none), or the name of what it throws. */
        private Object call(String name, Object... arguments) {
            Method method = Arrays.stream(row.getClass().getDeclaredMethods())
                    .filter(m -> m.getName().equals(name)).findFirst().orElseThrow();
            method.setAccessible(true);
            try {
                return method.invoke(row, arguments);
            } catch (InvocationTargetException e) {
                return e.getCause().getClass().getSimpleName();
            } catch (IllegalAccessException e) {
                throw new AssertionError(name, e);
            }
        }
    }
}
