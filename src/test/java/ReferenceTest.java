import java.lang.reflect.InvocationTargetException;
import java.lang.reflect.Method;
import java.util.ArrayList;
import java.util.List;
import java.util.Map;
import java.util.Random;
import java.util.TreeMap;

/**
 * Runs of 512 random calls, each made on a workbench and on the reference: every answer and every exception must be
 * the same, and an exception must be one that is thrown, not one of the machine's own. The seeds are fixed.
 */
public final class ReferenceTest {
    private static final int RUNS = 3000;
    private static final int CALLS = 512;

    /** For each method, what each of its arguments is, and how often it is called. */
    private static final String[] METHODS = {
        "append rl 6", "insert rpl 8", "delete rp 8", "length r 1", "line rp 2", "copy rr 4", "isSame rr 2",
        "distance rr 3", "feed c 3", "readDocument r 3", "setMode m 3", "compare rr 8", "partner p 4", "anchors  2",
        "differences  2", "difference iw 5", "step p 5", "similarity  2", "findMoves n 6", "move iw 9",
        "setShrinking b 2", "merge rrr 8", "chunks  2", "chunk iw 8", "resolve ih 9", "unresolved  2",
        "mergedLength  2", "merged P 6", "accept r 4", "makePatch x 6", "hunk iw 9", "apply rfb 9", "outcome iw 9",
        "undo  4", "save  2", "restore  2"
    };

    private static final Map<String, Method> REAL = methodsOf(MergeWorkbench.class);
    private static final Map<String, Method> DUE = methodsOf(Reference.class);
    private static final Map<String, Integer> ANSWERED = new TreeMap<>();

    private ReferenceTest() {
    }

    public static void main(String[] args) {
        for (int run = 0; run < RUNS; run++) {
            new Run(run).play();
        }
        for (String method : METHODS) {
            String name = method.split(" ")[0];
            int answered = ANSWERED.getOrDefault(name, 0);
            Check.due(name + " answered often enough, not " + answered + " times", answered >= RUNS / 2, true);
        }
        Check.end();
    }

    private static Map<String, Method> methodsOf(Class<?> type) {
        Map<String, Method> all = new TreeMap<>();
        for (Method method : type.getDeclaredMethods()) {
            if (java.lang.reflect.Modifier.isPublic(method.getModifiers())) {
                all.put(method.getName(), method);
            }
        }
        return all;
    }

    private static final class Run {
        private final Random random;
        private final int number;
        private final int alphabet;
        private final MergeWorkbench real = new MergeWorkbench();
        private final Reference due = new Reference();
        private final List<String> calls = new ArrayList<>();
        private boolean stopped = false;
        private int made = 0;

        Run(int number) {
            this.number = number;
            this.random = new Random(7919L * number + 1);
            this.alphabet = new int[] {2, 3, 5, 12, 26}[number % 5];
        }

        void play() {
            while (!stopped) {
                int kind = random.nextInt(60);
                if (kind < 2) {
                    readText(input());
                } else if (kind == 2) {
                    editedCopies();
                } else {
                    oneCall(METHODS[random.nextInt(METHODS.length)]);
                }
            }
        }

        private void oneCall(String method) {
            String[] parts = method.split(" ");
            if (random.nextInt(9) >= Integer.parseInt(parts[2])) {
                return;
            }
            Object[] arguments = new Object[parts[1].length()];
            for (int i = 0; i < arguments.length; i++) {
                arguments[i] = argument(parts[1].charAt(i));
            }
            call(parts[0], arguments);
            lookAfter(parts[0]);
        }

        /** After what makes a new state, now and then all that can be asked of it. */
        private void lookAfter(String name) {
            if (stopped || random.nextInt(3) != 0) {
                return;
            }
            switch (name) {
                case "compare":
                    all("partner", "IndexOutOfBounds");
                    all("step", "NoSuchElement");
                    table("difference", 4, "IndexOutOfBounds");
                    break;
                case "findMoves":
                    table("move", 3, "IndexOutOfBounds");
                    break;
                case "merge":
                case "resolve":
                    table("chunk", 7, "IndexOutOfBounds");
                    all("merged", "IndexOutOfBounds");
                    break;
                case "makePatch":
                    table("hunk", 6, "IndexOutOfBounds");
                    break;
                case "apply":
                    table("outcome", 2, "NoSuchElement");
                    break;
                default:
                    break;
            }
        }

        private boolean ended(Object answer, String exception) {
            return stopped || answer instanceof Class && ((Class<?>) answer).getSimpleName().startsWith(exception)
                    || answer == IllegalStateException.class;
        }

        private void all(String name, String exception) {
            int index = 0;
            while (!ended(call(name, index), exception)) {
                index++;
            }
        }

        private void table(String name, int columns, String exception) {
            for (int index = 0; !ended(call(name, index, 0), exception); index++) {
                for (int what = 1; what < columns && !stopped; what++) {
                    call(name, index, what);
                }
            }
        }

        private Object call(String name, Object... arguments) {
            made++;
            calls.add(name + List.of(arguments));
            Object want = answer(DUE.get(name), due, arguments);
            Object got = answer(REAL.get(name), real, arguments);
            if (!(want instanceof Class)) {
                ANSWERED.merge(name, 1, Integer::sum);
            }
            boolean same = want.equals(got);
            Check.due("run " + number + ": " + (same ? name : calls), got, want);
            stopped = !same || made >= CALLS;
            return want;
        }

        private static Object answer(Method method, Object on, Object[] arguments) {
            try {
                return method.invoke(on, arguments);
            } catch (InvocationTargetException e) {
                return e.getCause().getClass();
            } catch (IllegalAccessException e) {
                throw new IllegalStateException(e);
            }
        }

        private int one(int... of) {
            return of[random.nextInt(of.length)];
        }

        private Object argument(char kind) {
            if ("cb".indexOf(kind) < 0 && random.nextInt(150) == 0) {
                return one(Integer.MIN_VALUE, Integer.MAX_VALUE, -2, 30, 1000);
            }
            switch (kind) {
                case 'r':
                    return random.nextInt(40) == 0 ? one(-1, 4) : random.nextInt(4);
                case 'l':
                    return random.nextInt(30) == 0 ? one(-1, 26) : random.nextInt(alphabet);
                case 'p':
                    return random.nextInt(random.nextBoolean() ? 8 : 26) - 1;
                case 'P':
                    return random.nextInt(random.nextBoolean() ? 8 : 60) - 1;
                case 'i':
                    return random.nextInt(one(1, 1, 2, 3, 3, 12)) - (random.nextInt(12) == 0 ? 1 : 0);
                case 'w':
                    return random.nextInt(random.nextInt(4) == 0 ? 10 : 4) - (random.nextInt(12) == 0 ? 1 : 0);
                case 'm':
                    return random.nextInt(12) == 0 ? one(-1, 2) : random.nextInt(2);
                case 'n':
                    return random.nextBoolean() ? 1 : random.nextInt(11);
                case 'h':
                    return random.nextInt(12) == 0 ? one(-1, 5) : random.nextInt(5);
                case 'x':
                    return random.nextInt(12) == 0 ? one(-1, 4) : random.nextInt(4);
                case 'f':
                    return random.nextInt(12) == 0 ? one(-1, 3) : random.nextInt(3);
                case 'b':
                    return random.nextBoolean();
                default:
                    return "()az29b01A{`c3".charAt(random.nextInt(14));
            }
        }

        private void readText(String text) {
            for (int i = 0; i < text.length() && i < 50; i++) {
                call("feed", text.charAt(i));
                if (stopped) {
                    return;
                }
            }
            if (!stopped) {
                call("readDocument", argument('r'));
            }
        }

        private String input() {
            StringBuilder text = new StringBuilder();
            items(text, random.nextInt(8), 0);
            if (random.nextInt(3) == 0 && text.length() > 0) {
                text.insert(random.nextInt(text.length() + 1), argument('c'));
            }
            if (random.nextInt(6) == 0 && text.length() > 0) {
                text.deleteCharAt(random.nextInt(text.length()));
            }
            return text.toString();
        }

        private void items(StringBuilder text, int count, int depth) {
            for (int i = 0; i < count; i++) {
                if (random.nextInt(5) == 0 && depth < 5) {
                    text.append('(');
                    items(text, 1 + random.nextInt(3), depth + 1);
                    text.append(')');
                } else {
                    text.append((char) ('a' + random.nextInt(alphabet)));
                }
                if (random.nextInt(5) == 0) {
                    text.append((char) ('2' + random.nextInt(random.nextInt(4) == 0 ? 8 : 2)));
                }
            }
        }

        /** Makes the other documents from one of them, so that there is something to compare, merge and patch. */
        private void editedCopies() {
            int from = random.nextInt(4);
            if (random.nextBoolean()) {
                int lines = random.nextInt(20);
                for (int i = due.length(from); i < lines && !stopped; i++) {
                    call("append", from, random.nextInt(alphabet));
                }
            }
            for (int to = 0; to < 4 && !stopped; to++) {
                if (to != from) {
                    call("copy", from, to);
                    edit(to, 1 + random.nextInt(6));
                }
            }
        }

        /** Deletes, inserts and replaces lines, and now and then moves the last ones forward. */
        private void edit(int register, int times) {
            for (int i = 0; i < times && !stopped; i++) {
                int position = random.nextInt(due.length(register) + 1);
                int kind = random.nextInt(3);
                if (random.nextInt(4) == 0) {
                    moveBlock(register, position);
                    continue;
                }
                if (kind != 0) {
                    call("delete", register, position);
                }
                if (kind != 1 && !stopped) {
                    call("insert", register, position, random.nextInt(alphabet));
                }
            }
        }

        private void moveBlock(int register, int to) {
            int size = random.nextInt(4);
            for (int i = 0; i < size && !stopped; i++) {
                int length = due.length(register);
                int from = Math.min(to, length - 1 - i);
                if (from >= 0) {
                    Object line = call("delete", register, length - 1);
                    if (!stopped) {
                        call("insert", register, from, line);
                    }
                }
            }
        }
    }
}
