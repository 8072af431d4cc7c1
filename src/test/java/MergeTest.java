import java.util.NoSuchElementException;

/** Promises 22 to 30: shrinking, the merge, its chunks and its conflicts. */
public final class MergeTest {
    private static final Class<IllegalArgumentException> ARGUMENT = IllegalArgumentException.class;
    private static final Class<IllegalStateException> STATE = IllegalStateException.class;
    private static final Class<IndexOutOfBoundsException> INDEX = IndexOutOfBoundsException.class;
    private static final Class<NoSuchElementException> ELEMENT = NoSuchElementException.class;

    public static void main(String[] args) {
        setShrinking();
        kinds();
        shrinking();
        anchoredMerge();
        mergeIsKept();
        chunkExceptions();
        resolve();
        merged();
        accept();
        acceptExceptions();
        Check.end();
    }

    private static void setShrinking() {
        MergeWorkbench x = new MergeWorkbench();
        Check.due("setShrinking(false)", x.setShrinking(false), true);
        Check.due("setShrinking(false) again", x.setShrinking(false), false);
        Check.due("setShrinking(true)", x.setShrinking(true), false);
        Check.due("setShrinking(true) again", x.setShrinking(true), true);
    }

    private static void kinds() {
        Told.dueMerge("abc", "abc", "abc", "abc", "0:0-3:0-3:0-3");
        Told.dueMerge("abc", "abc", "axc", "axc", "0:0-1:0-1:0-1 2:1-2:1-2:1-2 0:2-3:2-3:2-3");
        Told.dueMerge("abc", "axc", "abc", "axc", "0:0-1:0-1:0-1 1:1-2:1-2:1-2 0:2-3:2-3:2-3");
        Told.dueMerge("abc", "axc", "axc", "axc", "0:0-1:0-1:0-1 3:1-2:1-2:1-2 0:2-3:2-3:2-3");
        Told.dueMerge("abc", "axc", "ayc", "a<x=y>c", "0:0-1:0-1:0-1 4:1-2:1-2:1-2 0:2-3:2-3:2-3");
        Told.dueMerge("abc", "ac", "abc", "ac", "0:0-1:0-1:0-1 1:1-2:1-1:1-2 0:2-3:1-2:2-3");
        Told.dueMerge("abc", "ac", "ac", "ac", "0:0-1:0-1:0-1 3:1-2:1-1:1-1 0:2-3:1-2:1-2");
        Told.dueMerge("abc", "ac", "axc", "a<=x>c", "0:0-1:0-1:0-1 4:1-2:1-1:1-2 0:2-3:1-2:2-3");
        Told.dueMerge("ab", "xab", "aby", "xaby", "1:0-0:0-1:0-0 0:0-2:1-3:0-2 2:2-2:3-3:2-3");
        Told.dueMerge("ab", "xab", "yab", "<x=y>ab", "4:0-0:0-1:0-1 0:0-2:1-3:1-3");
        Told.dueMerge("ab", "abx", "aby", "ab<x=y>", "0:0-2:0-2:0-2 4:2-2:2-3:2-3");
        Told.dueMerge("", "", "", "", "");
        Told.dueMerge("", "x", "", "x", "1:0-0:0-1:0-0");
        Told.dueMerge("", "", "x", "x", "2:0-0:0-0:0-1");
        Told.dueMerge("", "x", "x", "x", "3:0-0:0-1:0-1");
        Told.dueMerge("abc", "", "", "", "3:0-3:0-0:0-0");
        Told.dueMerge("abc", "", "abc", "", "1:0-3:0-0:0-3");
        // A line that only one side keeps is not stable.
        Told.dueMerge("abc", "ab", "bc", "b", "2:0-1:0-1:0-0 0:1-2:1-2:0-1 1:2-3:2-2:1-2");
        Told.dueMerge("abcd", "axcd", "abyd", "a<xc=by>d", "0:0-1:0-1:0-1 4:1-3:1-3:1-3 0:3-4:3-4:3-4");
    }

    private static void shrinking() {
        Told.dueMerge("abcde", "abxyde", "abxzde", "abx<y=z>de",
                "0:0-2:0-2:0-2 3:2-2:2-3:2-3 4:2-3:3-4:3-4 0:3-5:4-6:4-6");
        Told.dueMerge("acb", "aypxb", "ayqxb", "ay<p=q>xb",
                "0:0-1:0-1:0-1 3:1-1:1-2:1-2 4:1-2:2-3:2-3 3:2-2:3-4:3-4 0:2-3:4-5:4-5");
        Told.dueMerge("acb", "apxyb", "aqxyb", "a<p=q>xyb",
                "0:0-1:0-1:0-1 4:1-2:1-2:1-2 3:2-2:2-4:2-4 0:2-3:4-5:4-5");
        // The beginning comes first, and the end has what is left of it.
        Told.dueMerge("c", "xx", "xxx", "xx<=x>", "3:0-0:0-2:0-2 4:0-1:2-2:2-3");
        Told.dueMerge("c", "xyx", "xyxyx", "xyx<=yx>", "3:0-0:0-3:0-3 4:0-1:3-3:3-5");
        Told.dueMerge("c", "xy", "xzy", "x<=z>y", "3:0-0:0-1:0-1 4:0-1:1-1:1-2 3:1-1:1-2:2-3");
        Told.dueMerge("c", "xxx", "xx", "xx<x=>", "3:0-0:0-2:0-2 4:0-1:2-3:2-2");
        Told.dueMerge("ac", "axxx", "axx", "axx<x=>", "0:0-1:0-1:0-1 3:1-1:1-3:1-3 4:1-2:3-4:3-3");
        Told.dueMerge("ac", "axyzy", "axy", "axy<zy=>", "0:0-1:0-1:0-1 3:1-1:1-3:1-3 4:1-2:3-5:3-3");
        Told.dueMerge("cb", "yxb", "xb", "<y=>xb", "4:0-1:0-1:0-0 3:1-1:1-2:0-1 0:1-2:2-3:1-2");
        // As the base part once the ends are taken away: it stays a conflict.
        Told.dueMerge("", "xy", "xzy", "x<=z>y", "3:0-0:0-1:0-1 4:0-0:1-1:1-2 3:0-0:1-2:2-3");
        MergeWorkbench x = Check.with("acb", "aypxb", "ayqxb");
        x.setShrinking(false);
        Check.due("merge without shrinking", x.merge(0, 1, 2), 1);
        String whole = "0:0-1:0-1:0-1 4:1-2:1-4:1-4 0:2-3:4-5:4-5";
        Check.due("chunks without shrinking", Told.chunks(x), whole);
        Check.due("merged without shrinking", Told.merged(x), "a<ypx=yqx>b");
        x.setShrinking(true);
        Check.due("only later merges use it", Told.chunks(x), whole);
        x.merge(0, 1, 2);
        Check.due("chunks with shrinking", x.chunks(), 5);
    }

    private static void anchoredMerge() {
        MergeWorkbench x = Check.with("xaabb", "aabbx", "xaabb");
        x.merge(0, 1, 2);
        Check.due("plain merge", Told.chunks(x), "1:0-1:0-0:0-1 0:1-5:0-4:1-5 1:5-5:4-5:5-5");
        x.setMode(1);
        Check.due("the kept merge stays", x.chunks(), 3);
        x.merge(0, 1, 2);
        Check.due("anchored merge", Told.chunks(x), "1:0-0:0-4:0-0 0:0-1:4-5:0-1 1:1-5:5-5:1-5");
        // The right document is aligned by anchors, too.
        x.merge(0, 2, 1);
        Check.due("anchored merge", Told.chunks(x), "2:0-0:0-0:0-4 0:0-1:0-1:4-5 2:1-5:1-5:5-5");
    }

    private static void mergeIsKept() {
        MergeWorkbench x = Told.merging("abc", "axc", "ayc");
        Check.read(x, 0, "q");
        Check.read(x, 1, "");
        Check.read(x, 2, "pppp");
        Check.due("chunks afterwards", x.chunks(), 3);
        Check.due("merged afterwards", Told.merged(x), "a<x=y>c");
        x.resolve(0, 3);
        Check.due("resolved afterwards", Told.merged(x), "ayxc");
        x.resolve(0, 4);
        Check.due("the base afterwards", Told.merged(x), "abc");
        Check.dueThrows("merge with 4", ARGUMENT, () -> x.merge(0, 1, 4));
        Check.dueThrows("merge with -1", ARGUMENT, () -> x.merge(0, -1, 1));
        Check.dueThrows("merge of 4", ARGUMENT, () -> x.merge(4, 1, 1));
        Check.due("merged after an exception", Told.merged(x), "abc");
        Check.due("merge of one document", x.merge(2, 2, 2), 0);
        Check.due("a chunk of kind 0", Told.chunks(x), "0:0-4:0-4:0-4");
    }

    private static void chunkExceptions() {
        MergeWorkbench none = new MergeWorkbench();
        Check.dueThrows("chunks without merge", STATE, none::chunks);
        Check.dueThrows("chunk without merge", STATE, () -> none.chunk(-1, 9));
        Check.dueThrows("unresolved without merge", STATE, none::unresolved);
        Check.dueThrows("mergedLength without merge", STATE, none::mergedLength);
        Check.dueThrows("merged without merge", STATE, () -> none.merged(-1));
        Check.dueThrows("resolve without merge", STATE, () -> none.resolve(-1, 9));
        MergeWorkbench x = Told.merging("abc", "axc", "ayc");
        Check.dueThrows("chunk(3, 0)", INDEX, () -> x.chunk(3, 0));
        Check.dueThrows("chunk(-1, 9)", INDEX, () -> x.chunk(-1, 9));
        Check.dueThrows("chunk(0, 7)", ARGUMENT, () -> x.chunk(0, 7));
        Check.dueThrows("chunk(0, -1)", ARGUMENT, () -> x.chunk(0, -1));
    }

    private static void resolve() {
        MergeWorkbench x = Told.merging("abcd", "axxcp", "aycqq");
        Check.due("two conflicts", x.unresolved(), 2);
        Check.dueThrows("resolve(2, 0)", ELEMENT, () -> x.resolve(2, 0));
        Check.dueThrows("resolve(-1, 9)", ELEMENT, () -> x.resolve(-1, 9));
        Check.dueThrows("resolve(0, 5)", ARGUMENT, () -> x.resolve(0, 5));
        Check.dueThrows("resolve(0, -1)", ARGUMENT, () -> x.resolve(0, -1));
        Check.due("still two conflicts", x.unresolved(), 2);
        Check.due("choice 0", x.resolve(0, 0), 2);
        Check.due("one conflict", x.unresolved(), 1);
        Check.due("the left part", Told.merged(x), "axxc<p=qq>");
        Check.due("choice 1", x.resolve(0, 1), 1);
        Check.due("the right part", Told.merged(x), "ayc<p=qq>");
        Check.due("choice 2", x.resolve(0, 2), 3);
        Check.due("left, then right", Told.merged(x), "axxyc<p=qq>");
        Check.due("choice 3", x.resolve(0, 3), 3);
        Check.due("right, then left", Told.merged(x), "ayxxc<p=qq>");
        Check.due("choice 4", x.resolve(0, 4), 1);
        Check.due("the base part", Told.merged(x), "abc<p=qq>");
        Check.due("still one conflict", x.unresolved(), 1);
        Check.due("choice 1 of the other", x.resolve(1, 1), 2);
        Check.due("all resolved", Told.merged(x), "abcqq");
        Check.due("no conflict", x.unresolved(), 0);
        x.merge(0, 1, 2);
        Check.due("a new merge is unresolved", x.unresolved(), 2);
        Check.dueThrows("a chunk that is no conflict", ELEMENT, () -> Told.merging("a", "b", "a").resolve(0, 0));
        MergeWorkbench shrunk = Told.merging("acb", "aypxb", "ayqqxb");
        Check.due("choice 2 of a shrunk one", shrunk.resolve(0, 2), 3);
        Check.due("a shrunk one", Told.merged(shrunk), "aypqqxb");
        Check.due("choice 4 of a shrunk one", shrunk.resolve(0, 4), 1);
        Check.due("the base part stays whole", Told.merged(shrunk), "aycxb");
    }

    private static void merged() {
        MergeWorkbench x = Told.merging("abc", "axc", "ayc");
        int[] elements = {0, -1, 23, -2, 24, -3, 2};
        Check.due("mergedLength", x.mergedLength(), elements.length);
        for (int index = 0; index < elements.length; index++) {
            Check.due("merged " + index, x.merged(index), elements[index]);
        }
        Check.dueThrows("merged(7)", INDEX, () -> x.merged(7));
        Check.dueThrows("merged(-1)", INDEX, () -> x.merged(-1));
        Check.dueThrows("merged of nothing", INDEX, () -> Told.merging("", "", "").merged(0));
        // Twelve conflicts, each with three marks.
        MergeWorkbench most = Told.merging("abcdefghijkl", "axbxcxdxexfxgxhxixjxkxlx", "aybycydyeyfygyhyiyjykyly");
        Check.due("conflicts of the longest", most.unresolved(), 12);
        Check.due("length of the longest", most.mergedLength(), 72);
        Check.due("the last mark", most.merged(71), -3);
    }

    private static void accept() {
        MergeWorkbench x = Told.merging("abc", "xabc", "abcy");
        Check.due("accept", x.accept(3), 5);
        Check.due("accepted", Check.text(x, 3), "xabcy");
        Check.due("accept into the base", x.accept(0), 5);
        Check.due("the merge stays", Told.merged(x), "xabcy");
        Check.due("accepted", Check.text(x, 0), "xabcy");
        Check.due("accept nothing", Told.merging("ab", "", "").accept(1), 0);
        MergeWorkbench full = Told.merging("abcdefgh", "(abcdefgh)2", "ijklmnopabcdefgh");
        Check.due("accept 24 lines", full.accept(3), 24);
        Check.due("24 lines", Check.text(full, 3), "ijklmnopabcdefghabcdefgh");
    }

    private static void acceptExceptions() {
        MergeWorkbench none = new MergeWorkbench();
        Check.dueThrows("accept without merge", STATE, () -> none.accept(0));
        Check.dueThrows("accept into 4 without merge", ARGUMENT, () -> none.accept(4));
        MergeWorkbench x = Told.merging("a", "a(bcd)7b2", "(efg)7he");
        Check.dueThrows("accept an unresolved conflict", STATE, () -> x.accept(3));
        Check.dueThrows("accept it into -1", ARGUMENT, () -> x.accept(-1));
        x.resolve(0, 2);
        Check.due("too many lines", x.mergedLength() > 24, true);
        Check.dueThrows("accept too many lines", UnsupportedOperationException.class, () -> x.accept(3));
        Check.dueThrows("accept them into 4", ARGUMENT, () -> x.accept(4));
        Check.due("the document stays", x.length(3), 0);
        x.resolve(0, 0);
        Check.due("accept 24 lines", x.accept(3), 24);
    }
}
