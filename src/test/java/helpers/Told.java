import java.util.ArrayList;
import java.util.List;

/** Workbenches with a comparison, a merge or a patch, and what they answer, told as texts. */
final class Told {
    private Told() {
    }

    // ---- workbenches

    /** A comparison of documents 0 and 1. */
    static MergeWorkbench compared(int mode, String a, String b) {
        MergeWorkbench x = Check.with(a, b);
        x.setMode(mode);
        x.compare(0, 1);
        return x;
    }

    /** A merge of documents 0, 1 and 2. */
    static MergeWorkbench merging(String base, String left, String right) {
        MergeWorkbench x = Check.with(base, left, right);
        x.merge(0, 1, 2);
        return x;
    }

    /** A patch from document 0 to document 1, and perhaps a document 2 to apply it to. */
    static MergeWorkbench patching(int context, String... documents) {
        MergeWorkbench x = Check.with(documents);
        x.compare(0, 1);
        x.makePatch(context);
        return x;
    }

    /** All documents with at most so many of these lines. */
    static List<String> documents(String letters, int most) {
        List<String> all = new ArrayList<>(List.of(""));
        int begin = 0;
        for (int size = 1; size <= most; size++) {
            int end = all.size();
            for (int k = begin; k < end; k++) {
                for (char letter : letters.toCharArray()) {
                    all.add(all.get(k) + letter);
                }
            }
            begin = end;
        }
        return all;
    }

    // ---- what they answer

    /** The partner of each position. */
    static String partners(MergeWorkbench x, int lines) {
        StringBuilder all = new StringBuilder();
        for (int position = 0; position < lines; position++) {
            all.append(x.partner(position)).append(' ');
        }
        return all.toString().trim();
    }

    /** The four bounds of each difference. */
    static String differences(MergeWorkbench x) {
        StringBuilder all = new StringBuilder();
        for (int index = 0; index < x.differences(); index++) {
            for (int what = 0; what < 4; what++) {
                all.append(x.difference(index, what)).append(what < 3 ? "," : " ");
            }
        }
        return all.toString().trim();
    }

    /** The three properties of each move. */
    static String moves(MergeWorkbench x, int count) {
        StringBuilder all = new StringBuilder();
        for (int index = 0; index < count; index++) {
            all.append(x.move(index, 0)).append(',').append(x.move(index, 1)).append(',')
                    .append(x.move(index, 2)).append(' ');
        }
        return all.toString().trim();
    }

    /** Each chunk as its kind and the bounds of its base, left and right part. */
    static String chunks(MergeWorkbench x) {
        StringBuilder all = new StringBuilder();
        for (int index = 0; index < x.chunks(); index++) {
            for (int what = 0; what < 7; what++) {
                all.append(x.chunk(index, what)).append(what == 6 ? " " : what % 2 == 0 ? ":" : "-");
            }
        }
        return all.toString().trim();
    }

    /** The merged document, with the marks -1, -2 and -3 as the signs of a conflict. */
    static String merged(MergeWorkbench x) {
        StringBuilder all = new StringBuilder();
        for (int index = 0; index < x.mergedLength(); index++) {
            int element = x.merged(index);
            all.append(element >= 0 ? (char) ('a' + element) : element == -1 ? '<' : element == -2 ? '=' : '>');
        }
        return all.toString();
    }

    /** The six properties of each hunk. */
    static String hunks(MergeWorkbench x, int count) {
        StringBuilder all = new StringBuilder();
        for (int index = 0; index < count; index++) {
            for (int what = 0; what < 6; what++) {
                all.append(x.hunk(index, what)).append(what < 5 ? "," : " ");
            }
        }
        return all.toString().trim();
    }

    /** The position and the fuzz of each hunk. */
    static String outcomes(MergeWorkbench x, int count) {
        StringBuilder all = new StringBuilder();
        for (int index = 0; index < count; index++) {
            all.append(x.outcome(index, 0)).append(',').append(x.outcome(index, 1)).append(' ');
        }
        return all.toString().trim();
    }

    // ---- what is due

    static void dueHunks(int context, String a, String b, String due) {
        MergeWorkbench x = Check.with(a, b);
        x.compare(0, 1);
        int count = due.isEmpty() ? 0 : due.split(" ").length;
        String call = "hunks of " + a + " and " + b + " with context " + context;
        Check.due(call, x.makePatch(context), count);
        Check.due(call, hunks(x, count), due);
        Check.dueThrows("the hunk behind the last one", IndexOutOfBoundsException.class, () -> x.hunk(count, 0));
    }

    /** Applies x's patch to the target in register 2, and compares the outcomes and the document. */
    static void dueApply(MergeWorkbench x, String target, int fuzz, boolean reversed, String outcomes,
            String document) {
        Check.read(x, 2, target);
        int hunks = outcomes.split(" ").length;
        int applied = 0;
        for (String one : outcomes.split(" ")) {
            applied += one.startsWith("-1") ? 0 : 1;
        }
        String call = "apply to " + target + " with fuzz " + fuzz + (reversed ? ", reversed" : "");
        Check.due(call, x.apply(2, fuzz, reversed), applied);
        Check.due("outcomes of " + call, outcomes(x, hunks), outcomes);
        Check.due("document of " + call, Check.text(x, 2), document);
    }

    /** The merged document, its conflicts, and the chunks. */
    static void dueMerge(String base, String left, String right, String merged, String chunks) {
        MergeWorkbench x = Check.with(base, left, right);
        int conflicts = 0;
        for (char sign : merged.toCharArray()) {
            conflicts += sign == '<' ? 1 : 0;
        }
        String call = "merge of " + base + ", " + left + " and " + right;
        Check.due(call, x.merge(0, 1, 2), conflicts);
        Check.due("unresolved of " + call, x.unresolved(), conflicts);
        Check.due("merged document of " + call, merged(x), merged);
        Check.due("chunks of " + call, chunks(x), chunks);
    }

    static void dueRead(String text, String document) {
        MergeWorkbench x = Check.with("q");
        Check.due("length of " + text, Check.read(x, 0, text), document.length());
        Check.due("document of " + text, Check.text(x, 0), document);
        Check.due("input after " + text, x.feed('a'), 1);
    }

    static void dueReadError(String text, int position) {
        MergeWorkbench x = Check.with("pq");
        Check.due("error of " + text, Check.read(x, 0, text), -100 - position);
        Check.due("document after " + text, Check.text(x, 0), "pq");
        Check.due("input after " + text, x.feed('a'), 1);
    }

    static void dueUndo(MergeWorkbench x, int register, String document) {
        Check.due("undo", x.undo(), register);
        Check.due("document " + register + " after undo", Check.text(x, register), document);
    }
}
