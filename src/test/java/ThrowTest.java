import java.lang.reflect.InvocationTargetException;
import java.lang.reflect.Method;
import java.lang.reflect.Modifier;
import java.util.ArrayList;
import java.util.Comparator;
import java.util.List;
import java.util.Random;
import java.util.Set;
import java.util.TreeSet;

/**
 * Runs of random calls with arguments from one end of their types to the other, in many states: whatever is thrown is
 * one of the exceptions that the method declares, thrown by the class's own throw. Each one must be thrown once.
 */
public final class ThrowTest {
    private static final int RUNS = 2000;
    /** What makes the states to begin with has calls of its own. */
    private static final int CALLS = 300;
    private static final String OF_INPUT = "ab()239z";
    private static final int[] ENDS = {Integer.MIN_VALUE, Integer.MIN_VALUE + 1, -1000000, -101, -2, -1, 4, 5, 8, 9, 10,
        23, 24, 25, 26, 47, 48, 49, 50, 99, 100, 1 << 28, 178956971, 1 << 30, Integer.MAX_VALUE - 1,
        Integer.MAX_VALUE};

    private static final List<State.Maker> BEGINS = List.of(MergeWorkbench::new, State::worked, State::settled,
            State::feeding, State::full, ThrowTest::tooLong, ThrowTest::moved);

    private static final List<Method> METHODS = methods();
    private static final Set<String> THROWN = new TreeSet<>();

    private ThrowTest() {
    }

    public static void main(String[] args) {
        for (int run = 0; run < RUNS; run++) {
            play(BEGINS.get(run % BEGINS.size()).make(), new Random(104729L * run + 7));
        }
        for (Method method : METHODS) {
            for (Class<?> exception : method.getExceptionTypes()) {
                Check.due(told(method, exception) + " is thrown", THROWN.contains(told(method, exception)), true);
            }
        }
        Check.end();
    }

    /** A merge and a patch that make documents too long, and an input that is full and describes one. */
    private static MergeWorkbench tooLong() {
        MergeWorkbench x = Check.with("", "a9a9", "b9b9", "c9c9");
        x.compare(0, 1);
        x.makePatch(0);
        x.merge(0, 1, 2);
        x.resolve(0, 2);
        Check.feed(x, "ab".repeat(25));
        return x;
    }

    private static MergeWorkbench moved() {
        MergeWorkbench x = Check.with("abcdefg", "efgabcd");
        x.compare(0, 1);
        x.findMoves(1);
        return x;
    }

    private static List<Method> methods() {
        List<Method> all = new ArrayList<>();
        for (Method method : MergeWorkbench.class.getDeclaredMethods()) {
            if (Modifier.isPublic(method.getModifiers())) {
                all.add(method);
            }
        }
        all.sort(Comparator.comparing(Method::getName));
        return all;
    }

    private static void play(MergeWorkbench x, Random random) {
        for (int made = 0; made < CALLS; made++) {
            Method method = METHODS.get(random.nextInt(METHODS.size()));
            Object[] arguments = new Object[method.getParameterCount()];
            for (int k = 0; k < arguments.length; k++) {
                arguments[k] = argument(method.getParameterTypes()[k], random);
            }
            String call = method.getName() + List.of(arguments);
            try {
                Object answer = method.invoke(x, arguments);
                Check.due(call + " is a number", !(answer instanceof Double number) || number >= 0, true);
            } catch (InvocationTargetException e) {
                look(call, method, e.getCause());
            } catch (IllegalAccessException e) {
                throw new IllegalStateException(e);
            }
        }
    }

    private static Object argument(Class<?> type, Random random) {
        if (type == boolean.class) {
            return random.nextBoolean();
        }
        if (type == char.class) {
            return random.nextInt(9) == 0 ? (char) random.nextInt(65536)
                    : OF_INPUT.charAt(random.nextInt(OF_INPUT.length()));
        }
        return random.nextInt(3) == 0 ? ENDS[random.nextInt(ENDS.length)] : random.nextInt(4);
    }

    /** An exception that the machine throws has no text of the class's, or is not thrown in a method of its face. */
    private static void look(String call, Method method, Throwable thrown) {
        boolean isDeclared = List.of(method.getExceptionTypes()).contains(thrown.getClass());
        StackTraceElement[] trace = thrown.getStackTrace();
        boolean isOwn = trace.length > 0 && trace[0].getClassName().equals(MergeWorkbench.class.getName());
        boolean isWritten = thrown.getMessage() != null && thrown.getMessage().matches("[a-z ]+");
        Check.due(call + " threw " + thrown + " by its own throw", isDeclared && isOwn && isWritten, true);
        THROWN.add(told(method, thrown.getClass()));
    }

    private static String told(Method method, Class<?> exception) {
        return method.getName() + " " + exception.getSimpleName();
    }
}
