import java.util.NoSuchElementException;

/** Promises 22 to 30: shrinking, the merge, its chunks and its conflicts. */
public final class MergeTest {
    private static final Class<IllegalArgumentException> ARGUMENT = IllegalArgumentException.class;
    private static final Class<IllegalStateException> STATE = IllegalStateException.class;
    private static final Class<IndexOutOfBoundsException> INDEX = IndexOutOfBoundsException.class;
    private static final Class<NoSuchElementException> ELEMENT = NoSuchElementException.class;

    public static void main(String[] args) {
        setShrinking();
        kinds();
        shrinking();
        anchoredMerge();
        mergeIsKept();
        chunkExceptions();
        resolve();
        merged();
        accept();
        acceptExceptions();
        Check.end();
    }

    private static MergeWorkbench merging(String base, String left, String right) {
        MergeWorkbench x = Check.with(base, left, right);
        x.merge(0, 1, 2);
        return x;
    }

    /** Each chunk as its kind and the bounds of its base, left and right part. */
    private static String chunks(MergeWorkbench x) {
        StringBuilder all = new StringBuilder();
        for (int index = 0; index < x.chunks(); index++) {
            for (int what = 0; what < 7; what++) {
                all.append(x.chunk(index, what)).append(what == 6 ? " " : what % 2 == 0 ? ":" : "-");
            }
        }
        return all.toString().trim();
    }

    /** The merged document, with the marks -1, -2 and -3 as the signs of a conflict. */
    private static String mergedText(MergeWorkbench x) {
        StringBuilder all = new StringBuilder();
        for (int index = 0; index < x.mergedLength(); index++) {
            int element = x.merged(index);
            all.append(element >= 0 ? (char) ('a' + element) : element == -1 ? '<' : element == -2 ? '=' : '>');
        }
        return all.toString();
    }

    private static void dueMerge(String base, String left, String right, String merged, String chunks) {
        MergeWorkbench x = Check.with(base, left, right);
        int conflicts = 0;
        for (char sign : merged.toCharArray()) {
            conflicts += sign == '<' ? 1 : 0;
        }
        String call = "merge of " + base + ", " + left + " and " + right;
        Check.due(call, x.merge(0, 1, 2), conflicts);
        Check.due("unresolved of " + call, x.unresolved(), conflicts);
        Check.due(call, mergedText(x), merged);
        Check.due(call, chunks(x), chunks);
    }

    private static void setShrinking() {
        MergeWorkbench x = new MergeWorkbench();
        Check.due("setShrinking(false)", x.setShrinking(false), true);
        Check.due("setShrinking(false) again", x.setShrinking(false), false);
        Check.due("setShrinking(true)", x.setShrinking(true), false);
        Check.due("setShrinking(true) again", x.setShrinking(true), true);
    }

    private static void kinds() {
        dueMerge("abc", "abc", "abc", "abc", "0:0-3:0-3:0-3");
        dueMerge("abc", "abc", "axc", "axc", "0:0-1:0-1:0-1 2:1-2:1-2:1-2 0:2-3:2-3:2-3");
        dueMerge("abc", "axc", "abc", "axc", "0:0-1:0-1:0-1 1:1-2:1-2:1-2 0:2-3:2-3:2-3");
        dueMerge("abc", "axc", "axc", "axc", "0:0-1:0-1:0-1 3:1-2:1-2:1-2 0:2-3:2-3:2-3");
        dueMerge("abc", "axc", "ayc", "a<x=y>c", "0:0-1:0-1:0-1 4:1-2:1-2:1-2 0:2-3:2-3:2-3");
        dueMerge("abc", "ac", "abc", "ac", "0:0-1:0-1:0-1 1:1-2:1-1:1-2 0:2-3:1-2:2-3");
        dueMerge("abc", "ac", "ac", "ac", "0:0-1:0-1:0-1 3:1-2:1-1:1-1 0:2-3:1-2:1-2");
        dueMerge("abc", "ac", "axc", "a<=x>c", "0:0-1:0-1:0-1 4:1-2:1-1:1-2 0:2-3:1-2:2-3");
        dueMerge("ab", "xab", "aby", "xaby", "1:0-0:0-1:0-0 0:0-2:1-3:0-2 2:2-2:3-3:2-3");
        dueMerge("ab", "xab", "yab", "<x=y>ab", "4:0-0:0-1:0-1 0:0-2:1-3:1-3");
        dueMerge("ab", "abx", "aby", "ab<x=y>", "0:0-2:0-2:0-2 4:2-2:2-3:2-3");
        dueMerge("", "", "", "", "");
        dueMerge("", "x", "", "x", "1:0-0:0-1:0-0");
        dueMerge("", "", "x", "x", "2:0-0:0-0:0-1");
        dueMerge("", "x", "x", "x", "3:0-0:0-1:0-1");
        dueMerge("abc", "", "", "", "3:0-3:0-0:0-0");
        dueMerge("abc", "", "abc", "", "1:0-3:0-0:0-3");
        // A line that only one side keeps is not stable.
        dueMerge("abc", "ab", "bc", "b", "2:0-1:0-1:0-0 0:1-2:1-2:0-1 1:2-3:2-2:1-2");
        dueMerge("abcd", "axcd", "abyd", "a<xc=by>d", "0:0-1:0-1:0-1 4:1-3:1-3:1-3 0:3-4:3-4:3-4");
    }

    private static void shrinking() {
        dueMerge("abcde", "abxyde", "abxzde", "abx<y=z>de",
                "0:0-2:0-2:0-2 3:2-2:2-3:2-3 4:2-3:3-4:3-4 0:3-5:4-6:4-6");
        dueMerge("acb", "aypxb", "ayqxb", "ay<p=q>xb",
                "0:0-1:0-1:0-1 3:1-1:1-2:1-2 4:1-2:2-3:2-3 3:2-2:3-4:3-4 0:2-3:4-5:4-5");
        dueMerge("acb", "apxyb", "aqxyb", "a<p=q>xyb",
                "0:0-1:0-1:0-1 4:1-2:1-2:1-2 3:2-2:2-4:2-4 0:2-3:4-5:4-5");
        // The beginning comes first, and the end has what is left of it.
        dueMerge("c", "xx", "xxx", "xx<=x>", "3:0-0:0-2:0-2 4:0-1:2-2:2-3");
        dueMerge("c", "xyx", "xyxyx", "xyx<=yx>", "3:0-0:0-3:0-3 4:0-1:3-3:3-5");
        dueMerge("c", "xy", "xzy", "x<=z>y", "3:0-0:0-1:0-1 4:0-1:1-1:1-2 3:1-1:1-2:2-3");
        dueMerge("c", "xxx", "xx", "xx<x=>", "3:0-0:0-2:0-2 4:0-1:2-3:2-2");
        dueMerge("ac", "axxx", "axx", "axx<x=>", "0:0-1:0-1:0-1 3:1-1:1-3:1-3 4:1-2:3-4:3-3");
        dueMerge("ac", "axyzy", "axy", "axy<zy=>", "0:0-1:0-1:0-1 3:1-1:1-3:1-3 4:1-2:3-5:3-3");
        dueMerge("cb", "yxb", "xb", "<y=>xb", "4:0-1:0-1:0-0 3:1-1:1-2:0-1 0:1-2:2-3:1-2");
        // As the base part once the ends are taken away: it stays a conflict.
        dueMerge("", "xy", "xzy", "x<=z>y", "3:0-0:0-1:0-1 4:0-0:1-1:1-2 3:0-0:1-2:2-3");
        MergeWorkbench x = Check.with("acb", "aypxb", "ayqxb");
        x.setShrinking(false);
        Check.due("merge without shrinking", x.merge(0, 1, 2), 1);
        String whole = "0:0-1:0-1:0-1 4:1-2:1-4:1-4 0:2-3:4-5:4-5";
        Check.due("chunks without shrinking", chunks(x), whole);
        Check.due("merged without shrinking", mergedText(x), "a<ypx=yqx>b");
        x.setShrinking(true);
        Check.due("only later merges use it", chunks(x), whole);
        x.merge(0, 1, 2);
        Check.due("chunks with shrinking", x.chunks(), 5);
    }

    private static void anchoredMerge() {
        MergeWorkbench x = Check.with("xaabb", "aabbx", "xaabb");
        x.merge(0, 1, 2);
        Check.due("plain merge", chunks(x), "1:0-1:0-0:0-1 0:1-5:0-4:1-5 1:5-5:4-5:5-5");
        x.setMode(1);
        Check.due("the kept merge stays", x.chunks(), 3);
        x.merge(0, 1, 2);
        Check.due("anchored merge", chunks(x), "1:0-0:0-4:0-0 0:0-1:4-5:0-1 1:1-5:5-5:1-5");
        // The right document is aligned by anchors, too.
        x.merge(0, 2, 1);
        Check.due("anchored merge", chunks(x), "2:0-0:0-0:0-4 0:0-1:0-1:4-5 2:1-5:1-5:5-5");
    }

    private static void mergeIsKept() {
        MergeWorkbench x = merging("abc", "axc", "ayc");
        Check.read(x, 0, "q");
        Check.read(x, 1, "");
        Check.read(x, 2, "pppp");
        Check.due("chunks afterwards", x.chunks(), 3);
        Check.due("merged afterwards", mergedText(x), "a<x=y>c");
        x.resolve(0, 3);
        Check.due("resolved afterwards", mergedText(x), "ayxc");
        x.resolve(0, 4);
        Check.due("the base afterwards", mergedText(x), "abc");
        Check.dueThrows("merge with 4", ARGUMENT, () -> x.merge(0, 1, 4));
        Check.dueThrows("merge with -1", ARGUMENT, () -> x.merge(0, -1, 1));
        Check.dueThrows("merge of 4", ARGUMENT, () -> x.merge(4, 1, 1));
        Check.due("merged after an exception", mergedText(x), "abc");
        Check.due("merge of one document", x.merge(2, 2, 2), 0);
        Check.due("a chunk of kind 0", chunks(x), "0:0-4:0-4:0-4");
    }

    private static void chunkExceptions() {
        MergeWorkbench none = new MergeWorkbench();
        Check.dueThrows("chunks without merge", STATE, none::chunks);
        Check.dueThrows("chunk without merge", STATE, () -> none.chunk(-1, 9));
        Check.dueThrows("unresolved without merge", STATE, none::unresolved);
        Check.dueThrows("mergedLength without merge", STATE, none::mergedLength);
        Check.dueThrows("merged without merge", STATE, () -> none.merged(-1));
        Check.dueThrows("resolve without merge", STATE, () -> none.resolve(-1, 9));
        MergeWorkbench x = merging("abc", "axc", "ayc");
        Check.dueThrows("chunk(3, 0)", INDEX, () -> x.chunk(3, 0));
        Check.dueThrows("chunk(-1, 9)", INDEX, () -> x.chunk(-1, 9));
        Check.dueThrows("chunk(0, 7)", ARGUMENT, () -> x.chunk(0, 7));
        Check.dueThrows("chunk(0, -1)", ARGUMENT, () -> x.chunk(0, -1));
    }

    private static void resolve() {
        MergeWorkbench x = merging("abcd", "axxcp", "aycqq");
        Check.due("two conflicts", x.unresolved(), 2);
        Check.dueThrows("resolve(2, 0)", ELEMENT, () -> x.resolve(2, 0));
        Check.dueThrows("resolve(-1, 9)", ELEMENT, () -> x.resolve(-1, 9));
        Check.dueThrows("resolve(0, 5)", ARGUMENT, () -> x.resolve(0, 5));
        Check.dueThrows("resolve(0, -1)", ARGUMENT, () -> x.resolve(0, -1));
        Check.due("still two conflicts", x.unresolved(), 2);
        Check.due("choice 0", x.resolve(0, 0), 2);
        Check.due("one conflict", x.unresolved(), 1);
        Check.due("the left part", mergedText(x), "axxc<p=qq>");
        Check.due("choice 1", x.resolve(0, 1), 1);
        Check.due("the right part", mergedText(x), "ayc<p=qq>");
        Check.due("choice 2", x.resolve(0, 2), 3);
        Check.due("left, then right", mergedText(x), "axxyc<p=qq>");
        Check.due("choice 3", x.resolve(0, 3), 3);
        Check.due("right, then left", mergedText(x), "ayxxc<p=qq>");
        Check.due("choice 4", x.resolve(0, 4), 1);
        Check.due("the base part", mergedText(x), "abc<p=qq>");
        Check.due("still one conflict", x.unresolved(), 1);
        Check.due("choice 1 of the other", x.resolve(1, 1), 2);
        Check.due("all resolved", mergedText(x), "abcqq");
        Check.due("no conflict", x.unresolved(), 0);
        x.merge(0, 1, 2);
        Check.due("a new merge is unresolved", x.unresolved(), 2);
        Check.dueThrows("a chunk that is no conflict", ELEMENT, () -> merging("a", "b", "a").resolve(0, 0));
        MergeWorkbench shrunk = merging("acb", "aypxb", "ayqqxb");
        Check.due("choice 2 of a shrunk one", shrunk.resolve(0, 2), 3);
        Check.due("a shrunk one", mergedText(shrunk), "aypqqxb");
        Check.due("choice 4 of a shrunk one", shrunk.resolve(0, 4), 1);
        Check.due("the base part stays whole", mergedText(shrunk), "aycxb");
    }

    private static void merged() {
        MergeWorkbench x = merging("abc", "axc", "ayc");
        int[] elements = {0, -1, 23, -2, 24, -3, 2};
        Check.due("mergedLength", x.mergedLength(), elements.length);
        for (int index = 0; index < elements.length; index++) {
            Check.due("merged " + index, x.merged(index), elements[index]);
        }
        Check.dueThrows("merged(7)", INDEX, () -> x.merged(7));
        Check.dueThrows("merged(-1)", INDEX, () -> x.merged(-1));
        Check.dueThrows("merged of nothing", INDEX, () -> merging("", "", "").merged(0));
        // Twelve conflicts, each with three marks.
        MergeWorkbench most = merging("abcdefghijkl", "axbxcxdxexfxgxhxixjxkxlx", "aybycydyeyfygyhyiyjykyly");
        Check.due("conflicts of the longest", most.unresolved(), 12);
        Check.due("length of the longest", most.mergedLength(), 72);
        Check.due("the last mark", most.merged(71), -3);
    }

    private static void accept() {
        MergeWorkbench x = merging("abc", "xabc", "abcy");
        Check.due("accept", x.accept(3), 5);
        Check.due("accepted", Check.text(x, 3), "xabcy");
        Check.due("accept into the base", x.accept(0), 5);
        Check.due("the merge stays", mergedText(x), "xabcy");
        Check.due("accepted", Check.text(x, 0), "xabcy");
        Check.due("accept nothing", merging("ab", "", "").accept(1), 0);
        MergeWorkbench full = merging("abcdefgh", "(abcdefgh)2", "ijklmnopabcdefgh");
        Check.due("accept 24 lines", full.accept(3), 24);
        Check.due("24 lines", Check.text(full, 3), "ijklmnopabcdefghabcdefgh");
    }

    private static void acceptExceptions() {
        MergeWorkbench none = new MergeWorkbench();
        Check.dueThrows("accept without merge", STATE, () -> none.accept(0));
        Check.dueThrows("accept into 4 without merge", ARGUMENT, () -> none.accept(4));
        MergeWorkbench x = merging("a", "a(bcd)7b2", "(efg)7he");
        Check.dueThrows("accept an unresolved conflict", STATE, () -> x.accept(3));
        Check.dueThrows("accept it into -1", ARGUMENT, () -> x.accept(-1));
        x.resolve(0, 2);
        Check.due("too many lines", x.mergedLength() > 24, true);
        Check.dueThrows("accept too many lines", UnsupportedOperationException.class, () -> x.accept(3));
        Check.dueThrows("accept them into 4", ARGUMENT, () -> x.accept(4));
        Check.due("the document stays", x.length(3), 0);
        x.resolve(0, 0);
        Check.due("accept 24 lines", x.accept(3), 24);
    }
}
