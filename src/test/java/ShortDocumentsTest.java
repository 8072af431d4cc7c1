import java.util.List;

/**
 * Promises 22 to 34 for all documents of few lines: each merge, with each resolution, and each patch, applied with
 * each fuzz, both ways, to each document, beside the reference.
 */
public final class ShortDocumentsTest {
    /** The same call on a workbench or on the reference; they have no type in common. */
    private interface Call {
        Object on(MergeWorkbench x);
    }

    private interface Due {
        Object on(Reference x);
    }

    private ShortDocumentsTest() {
    }

    public static void main(String[] args) {
        List<String> two = Told.documents("ab", 3);
        List<String> three = Told.documents("abc", 2);
        mergesOf(two);
        mergesOf(three);
        patchesOf(two);
        patchesOf(three);
        longerTargets();
        Check.end();
    }

    private static Reference reference(String... documents) {
        Reference x = new Reference();
        for (int register = 0; register < documents.length; register++) {
            for (char letter : documents[register].toCharArray()) {
                x.append(register, letter - 'a');
            }
        }
        return x;
    }

    private static Object answer(Reference x, Due call) {
        try {
            return call.on(x);
        } catch (RuntimeException e) {
            return e.getClass();
        }
    }

    private static Object answer(MergeWorkbench x, Call call) {
        try {
            return call.on(x);
        } catch (RuntimeException e) {
            return e.getClass();
        }
    }

    // ---- merges

    private static void mergesOf(List<String> documents) {
        for (String base : documents) {
            for (String left : documents) {
                for (String right : documents) {
                    for (int mode = 0; mode <= 1; mode++) {
                        merge(base, left, right, mode, true);
                        merge(base, left, right, mode, false);
                    }
                }
            }
        }
    }

    private static void merge(String base, String left, String right, int mode, boolean shrinking) {
        MergeWorkbench x = Check.with(base, left, right);
        Reference due = reference(base, left, right);
        x.setMode(mode);
        due.setMode(mode);
        x.setShrinking(shrinking);
        due.setShrinking(shrinking);
        Check.about("mode " + mode + ", shrinking " + shrinking + ", " + base + ", " + left + " and " + right + ": ");
        int conflicts = due.merge(0, 1, 2);
        Check.due("merge", x.merge(0, 1, 2), conflicts);
        Check.due("chunks", x.chunks(), due.chunks());
        for (int index = 0; index < due.chunks(); index++) {
            for (int what = 0; what < 7; what++) {
                Check.due("chunk " + index + "," + what, x.chunk(index, what), due.chunk(index, what));
            }
        }
        lookAtMerged(x, due);
        for (int conflict = 0; conflict < conflicts; conflict++) {
            int now = conflict;
            for (int choice = 0; choice <= 4; choice++) {
                int then = (choice + conflict) % 5;
                Check.due("resolve " + now + "," + then, x.resolve(now, then), due.resolve(now, then));
                lookAtMerged(x, due);
            }
        }
        Check.due("accept", answer(x, y -> y.accept(3)), answer(due, y -> y.accept(3)));
        Check.due("length", x.length(3), due.length(3));
        Check.about("");
    }

    private static void lookAtMerged(MergeWorkbench x, Reference due) {
        Check.due("unresolved", x.unresolved(), due.unresolved());
        Check.due("mergedLength", x.mergedLength(), due.mergedLength());
        for (int index = 0; index < due.mergedLength(); index++) {
            Check.due("merged " + index, x.merged(index), due.merged(index));
        }
    }

    // ---- patches

    private static void patchesOf(List<String> documents) {
        for (String a : documents) {
            for (String b : documents) {
                for (String target : documents) {
                    for (int context = 0; context <= 3; context++) {
                        patch(a, b, target, context);
                    }
                }
            }
        }
    }

    private static void patch(String a, String b, String target, int context) {
        MergeWorkbench x = Check.with(a, b, target);
        Reference due = reference(a, b, target);
        x.compare(0, 1);
        due.compare(0, 1);
        String patch = "context " + context + ", " + a + " and " + b + ": ";
        int hunks = due.makePatch(context);
        Check.due(patch + "makePatch", x.makePatch(context), hunks);
        for (int index = 0; index < hunks; index++) {
            for (int what = 0; what < 6; what++) {
                Check.due(patch + "hunk " + index + "," + what, x.hunk(index, what), due.hunk(index, what));
            }
        }
        for (int fuzz = 0; fuzz <= 2; fuzz++) {
            Check.about(patch + "fuzz " + fuzz + ", " + target + ": ");
            apply(x, due, hunks, fuzz, false);
            Check.about(patch + "fuzz " + fuzz + ", reversed, " + target + ": ");
            apply(x, due, hunks, fuzz, true);
        }
        Check.about("");
    }

    /** Undone afterwards, so that the next call finds the same document. */
    private static void apply(MergeWorkbench x, Reference due, int hunks, int fuzz, boolean reversed) {
        Check.due("apply", answer(x, y -> y.apply(2, fuzz, reversed)), answer(due, y -> y.apply(2, fuzz, reversed)));
        for (int index = 0; index < hunks; index++) {
            Check.due("outcome " + index, x.outcome(index, 0), due.outcome(index, 0));
            Check.due("fuzz of outcome " + index, x.outcome(index, 1), due.outcome(index, 1));
        }
        Check.due("length", x.length(2), due.length(2));
        for (int position = 0; position < due.length(2); position++) {
            Check.due("line " + position, x.line(2, position), due.line(2, position));
        }
        Check.due("undo", x.undo(), due.undo());
    }

    /** Two and more hunks, in documents that are too long to take all of them. */
    private static void longerTargets() {
        List<String> begins = Told.documents("ap", 2);
        for (String begin : begins) {
            for (String end : begins) {
                for (int context = 0; context <= 3; context++) {
                    patch("abcdefghij", "axcdefgyij", begin + "abcdef" + end + "ghij", context);
                    patch("abcabcabcabc", "abxabcabcyabc", begin + "abcabc" + end + "abc", context);
                    patch("aaaabaaaa", "aaabaaaba", begin + "aaaa" + end + "baaaa", context);
                }
            }
        }
    }
}
