import java.io.DataInputStream;
import java.io.IOException;
import java.io.InputStream;
import java.util.ArrayList;
import java.util.List;
import java.util.Set;
import java.util.TreeSet;

/**
 * The rules of LANGUAGE.md that show in the compiled class: what of the library it uses, that it has no lambda and no
 * joining of texts by +, how many classes it has, and that no private method bears the name of a public one.
 */
public final class LanguageTest {
    private static final Set<String> LIBRARY = Set.of("java/lang/Object.<init>", "java/lang/Math.min",
            "java/lang/Math.max", "java/lang/IllegalArgumentException.<init>",
            "java/lang/IllegalStateException.<init>", "java/lang/IndexOutOfBoundsException.<init>",
            "java/lang/ArithmeticException.<init>", "java/lang/UnsupportedOperationException.<init>",
            "java/util/NoSuchElementException.<init>");

    private static final int UTF8 = 1;
    private static final int CLASS = 7;
    private static final int NAME_AND_TYPE = 12;

    private LanguageTest() {
    }

    public static void main(String[] args) throws IOException {
        List<Class<?>> classes = new ArrayList<>();
        classes.add(MergeWorkbench.class);
        classes.addAll(List.of(MergeWorkbench.class.getDeclaredClasses()));
        Check.due(classes.size() + " classes are at most 12", classes.size() <= 12, true);
        Set<String> face = new TreeSet<>();
        for (var method : MergeWorkbench.class.getMethods()) {
            face.add(method.getName());
        }
        for (Class<?> one : classes) {
            boolean isOuter = one == MergeWorkbench.class;
            Check.due("classes inside " + one, isOuter || one.getDeclaredClasses().length == 0, true);
            checkMembers(one, face);
            checkPool(one);
        }
        Check.end();
    }

    private static void checkMembers(Class<?> one, Set<String> face) {
        int fields = 0;
        for (var field : one.getDeclaredFields()) {
            boolean isStatic = java.lang.reflect.Modifier.isStatic(field.getModifiers());
            boolean isFinal = java.lang.reflect.Modifier.isFinal(field.getModifiers());
            Check.due(field + " is final if it is static", !isStatic || isFinal, true);
            fields += isStatic ? 0 : 1;
        }
        Check.due(fields + " fields of " + one + " are at most 20", fields <= 20, true);
        for (var method : one.getDeclaredMethods()) {
            boolean ofFace = java.lang.reflect.Modifier.isPublic(method.getModifiers());
            Check.due(method + " has a name of its own", ofFace || !face.contains(method.getName()), true);
            Check.due(method + " has at most seven parameters", method.getParameterCount() <= 7, true);
        }
    }

    private static void checkPool(Class<?> one) throws IOException {
        try (InputStream bytes = one.getResourceAsStream(one.getName() + ".class");
                DataInputStream in = new DataInputStream(bytes)) {
            in.skipBytes(8);
            int size = in.readUnsignedShort();
            String[] texts = new String[size];
            int[] tags = new int[size];
            int[] firsts = new int[size];
            int[] seconds = new int[size];
            for (int i = 1; i < size; i++) {
                int tag = in.readUnsignedByte();
                tags[i] = tag;
                switch (tag) {
                    case UTF8:
                        texts[i] = in.readUTF();
                        break;
                    case CLASS:
                    case 8:
                        firsts[i] = in.readUnsignedShort();
                        break;
                    case 3:
                    case 4:
                        in.skipBytes(4);
                        break;
                    case 5:
                    case 6:
                        in.skipBytes(8);
                        i++;
                        break;
                    case 9:
                    case 10:
                    case 11:
                    case NAME_AND_TYPE:
                        firsts[i] = in.readUnsignedShort();
                        seconds[i] = in.readUnsignedShort();
                        break;
                    default:
                        Check.due("a constant of kind " + tag + " in " + one, false, true);
                        return;
                }
            }
            for (int i = 1; i < size; i++) {
                if (tags[i] == 9 || tags[i] == 10 || tags[i] == 11) {
                    String owner = texts[firsts[firsts[i]]];
                    String member = owner + "." + texts[firsts[seconds[i]]];
                    boolean own = owner.startsWith("MergeWorkbench");
                    Check.due(member + " may be used", own || LIBRARY.contains(member), true);
                }
            }
        }
    }
}
