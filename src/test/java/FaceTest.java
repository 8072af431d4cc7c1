import java.lang.reflect.Constructor;
import java.lang.reflect.Field;
import java.lang.reflect.Member;
import java.lang.reflect.Method;
import java.lang.reflect.Modifier;
import java.util.Set;
import java.util.TreeSet;

/** The public face: each signature of the document, and nothing else that is not private. */
public final class FaceTest {
    private static final String ARGUMENT = "IllegalArgumentException";
    private static final String STATE = "IllegalStateException";
    private static final String INDEX = "IndexOutOfBoundsException";
    private static final String ELEMENT = "NoSuchElementException";
    private static final String UNSUPPORTED = "UnsupportedOperationException";

    private static final Set<String> WANTED = new TreeSet<>();

    private FaceTest() {
    }

    public static void main(String[] args) {
        documents();
        comparison();
        merges();
        patches();
        Set<String> found = new TreeSet<>();
        for (Method method : MergeWorkbench.class.getDeclaredMethods()) {
            if (!Modifier.isPrivate(method.getModifiers())) {
                found.add(written(method));
            }
        }
        Check.due("methods", found, WANTED);
        Check.due("public methods", onlyPublic(MergeWorkbench.class.getDeclaredMethods()), true);
        Check.due("the class", Modifier.toString(MergeWorkbench.class.getModifiers()), "public final");
        Constructor<?>[] constructors = MergeWorkbench.class.getDeclaredConstructors();
        Check.due("constructors", constructors.length, 1);
        Check.due("the constructor", constructors[0].toGenericString(), "public MergeWorkbench()");
        for (Field field : MergeWorkbench.class.getDeclaredFields()) {
            Check.due(field + " is private", Modifier.isPrivate(field.getModifiers()), true);
        }
        for (Class<?> inside : MergeWorkbench.class.getDeclaredClasses()) {
            Check.due(inside + " is private", Modifier.isPrivate(inside.getModifiers()), true);
            Check.due(inside + " is static", Modifier.isStatic(inside.getModifiers()), true);
        }
        Check.end();
    }

    private static boolean onlyPublic(Member[] members) {
        boolean all = true;
        for (Member member : members) {
            int modifiers = member.getModifiers();
            all &= Modifier.isPrivate(modifiers) || Modifier.isPublic(modifiers) && !Modifier.isStatic(modifiers);
        }
        return all;
    }

    private static void want(String signature, String... exceptions) {
        WANTED.add(signature + " throws " + String.join(",", exceptions));
    }

    private static String written(Method method) {
        StringBuilder text = new StringBuilder();
        text.append(method.getReturnType()).append(' ').append(method.getName()).append('(');
        String comma = "";
        for (Class<?> parameter : method.getParameterTypes()) {
            text.append(comma).append(parameter);
            comma = ",";
        }
        text.append(") throws ");
        comma = "";
        for (Class<?> exception : method.getExceptionTypes()) {
            text.append(comma).append(exception.getSimpleName());
            comma = ",";
        }
        return text.toString();
    }

    private static void documents() {
        want("int append(int,int)", ARGUMENT, STATE);
        want("int insert(int,int,int)", ARGUMENT, STATE, INDEX);
        want("int delete(int,int)", ARGUMENT, INDEX);
        want("int length(int)", ARGUMENT);
        want("int line(int,int)", ARGUMENT, INDEX);
        want("int copy(int,int)", ARGUMENT);
        want("boolean isSame(int,int)", ARGUMENT);
        want("int distance(int,int)", ARGUMENT);
        want("int feed(char)", STATE);
        want("int readDocument(int)", ARGUMENT, STATE);
    }

    private static void comparison() {
        want("int setMode(int)", ARGUMENT);
        want("int compare(int,int)", ARGUMENT);
        want("int partner(int)", STATE, INDEX);
        want("int anchors()", STATE);
        want("int differences()", STATE);
        want("int difference(int,int)", STATE, INDEX, ARGUMENT);
        want("int step(int)", STATE, ELEMENT);
        want("double similarity()", STATE, "ArithmeticException");
        want("int findMoves(int)", ARGUMENT, STATE);
        want("int move(int,int)", INDEX, ARGUMENT);
    }

    private static void merges() {
        want("boolean setShrinking(boolean)");
        want("int merge(int,int,int)", ARGUMENT);
        want("int chunks()", STATE);
        want("int chunk(int,int)", STATE, INDEX, ARGUMENT);
        want("int resolve(int,int)", STATE, ELEMENT, ARGUMENT);
        want("int unresolved()", STATE);
        want("int mergedLength()", STATE);
        want("int merged(int)", STATE, INDEX);
        want("int accept(int)", ARGUMENT, STATE, UNSUPPORTED);
    }

    private static void patches() {
        want("int makePatch(int)", ARGUMENT, STATE);
        want("int hunk(int,int)", STATE, INDEX, ARGUMENT);
        want("int apply(int,int,boolean)", ARGUMENT, STATE, UNSUPPORTED);
        want("int outcome(int,int)", ELEMENT, ARGUMENT);
        want("int undo()", STATE);
        want("int save()");
        want("int restore()", STATE);
    }
}
