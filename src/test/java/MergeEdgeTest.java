import java.util.NoSuchElementException;

/** Promises 22 to 30, at the boundaries that the document names: each sentence has a test of its own. */
public final class MergeEdgeTest {
    private static final Class<IllegalArgumentException> ARGUMENT = IllegalArgumentException.class;
    private static final Class<IllegalStateException> STATE = IllegalStateException.class;
    private static final Class<IndexOutOfBoundsException> INDEX = IndexOutOfBoundsException.class;
    private static final Class<NoSuchElementException> ELEMENT = NoSuchElementException.class;
    private static final Class<UnsupportedOperationException> UNSUPPORTED = UnsupportedOperationException.class;
    private static final int LEAST = Integer.MIN_VALUE;
    private static final int GREATEST = Integer.MAX_VALUE;
    private static final String FULL = "abcdefghijklmnopqrstuvwx";

    public static void main(String[] args) {
        stableLines();
        regions();
        kinds();
        shrinkingRules();
        shrunkEnds();
        resolutions();
        setShrinking();
        merge();
        mergeIsKept();
        chunks();
        chunk();
        resolve();
        unresolved();
        mergedLength();
        merged();
        accept();
        acceptRefused();
        Doc.allTested(22, 30, "Merge", "Shrinking", "Resolutions");
        Check.end();
    }

    /** Fourteen stable lines with a conflict at each end and between each two: as many as there can be. */
    private static MergeWorkbench mostConflicts() {
        return Told.merging("papbpcpdpepfpgphpipjklmn", "abcdeqfqgqhqiqjqkqlqmqnq", "rarbrcrdrefghijrkrlrmrnr");
    }

    /** Two conflicts, at the chunks 1 and 3. */
    private static MergeWorkbench twoConflicts() {
        return Told.merging("abcd", "axxcp", "aycqq");
    }

    private static void stableLines() {
        Doc.says("Merge", "A merge of a base, a left and a right document uses the alignment");
        // Of two alignments as long, the first one: the first a of left and of right is stable.
        Told.dueMerge("a", "aa", "aa", "aa", "0:0-1:0-1:0-1 3:1-1:1-2:1-2");
        Told.dueMerge("aa", "a", "a", "a", "0:0-1:0-1:0-1 3:1-2:1-1:1-1");
        // Left and right are not aligned with one another.
        Told.dueMerge("", "ab", "b", "<a=>b", "4:0-0:0-1:0-0 3:0-0:1-2:0-1");
        Doc.says("Merge", "A line of the base is stable if it belongs to pairs of both.");
        Told.dueMerge("abc", "ab", "bc", "b", "2:0-1:0-1:0-0 0:1-2:1-2:0-1 1:2-3:2-2:1-2");
        Told.dueMerge("ab", "a", "b", "<a=b>", "4:0-2:0-1:0-1");
        Told.dueMerge(FULL, FULL, FULL, FULL, "0:0-24:0-24:0-24");
        Told.dueMerge(FULL, FULL, "", "", "2:0-24:0-24:0-0");
        Doc.says("Merge", "Stable lines with no region between them form a chunk of kind 0.");
        Told.dueMerge("ab", "ab", "ab", "ab", "0:0-2:0-2:0-2");
        Told.dueMerge("ab", "axb", "ab", "axb", "0:0-1:0-1:0-1 1:1-1:1-2:1-1 0:1-2:2-3:1-2");
        Told.dueMerge("abc", "abxc", "abc", "abxc", "0:0-2:0-2:0-2 1:2-2:2-3:2-2 0:2-3:3-4:2-3");
    }

    private static void regions() {
        Doc.says("Merge", "A region consists of the parts of the three documents");
        Told.dueMerge("", "", "", "", "");
        Told.dueMerge("a", "a", "a", "a", "0:0-1:0-1:0-1");
        // Before the first stable line, behind the last one, and between two; one part alone is not empty.
        Told.dueMerge("a", "xa", "a", "xa", "1:0-0:0-1:0-0 0:0-1:1-2:0-1");
        Told.dueMerge("a", "a", "xa", "xa", "2:0-0:0-0:0-1 0:0-1:0-1:1-2");
        Told.dueMerge("xa", "a", "a", "a", "3:0-1:0-0:0-0 0:1-2:0-1:0-1");
        Told.dueMerge("a", "ax", "a", "ax", "0:0-1:0-1:0-1 1:1-1:1-2:1-1");
        Told.dueMerge("a", "a", "ax", "ax", "0:0-1:0-1:0-1 2:1-1:1-1:1-2");
        Told.dueMerge("ax", "a", "a", "a", "0:0-1:0-1:0-1 3:1-2:1-1:1-1");
        Told.dueMerge("axb", "ab", "ab", "ab", "0:0-1:0-1:0-1 3:1-2:1-1:1-1 0:2-3:1-2:1-2");
        Told.dueMerge("ab", "ab", "axb", "axb", "0:0-1:0-1:0-1 2:1-1:1-1:1-2 0:1-2:1-2:2-3");
        // No stable line: one region of everything.
        Told.dueMerge("a", "b", "c", "<b=c>", "4:0-1:0-1:0-1");
        Told.dueMerge(FULL, "", "", "", "3:0-24:0-0:0-0");
        Told.dueMerge("", FULL, "", FULL, "1:0-0:0-24:0-0");
        Told.dueMerge("", "", FULL, FULL, "2:0-0:0-0:0-24");
        Doc.says("Merge", "The merge is a sequence of chunks.");
        Check.due("chunks of nothing", Told.merging("", "", "").chunks(), 0);
        Told.dueMerge("ab", "xab", "aby", "xaby", "1:0-0:0-1:0-0 0:0-2:1-3:0-2 2:2-2:3-3:2-3");
    }

    private static void kinds() {
        Doc.says("Merge", "A region forms a chunk of kind 2 (right) if its left part is equal to its base part;");
        Told.dueMerge("abc", "abc", "axc", "axc", "0:0-1:0-1:0-1 2:1-2:1-2:1-2 0:2-3:2-3:2-3");
        Told.dueMerge("abc", "axc", "abc", "axc", "0:0-1:0-1:0-1 1:1-2:1-2:1-2 0:2-3:2-3:2-3");
        Told.dueMerge("abc", "axc", "axc", "axc", "0:0-1:0-1:0-1 3:1-2:1-2:1-2 0:2-3:2-3:2-3");
        Told.dueMerge("abc", "axc", "ayc", "a<x=y>c", "0:0-1:0-1:0-1 4:1-2:1-2:1-2 0:2-3:2-3:2-3");
        // Empty parts are equal to empty ones, and to no others.
        Told.dueMerge("abc", "ac", "ac", "ac", "0:0-1:0-1:0-1 3:1-2:1-1:1-1 0:2-3:1-2:1-2");
        Told.dueMerge("abc", "ac", "axc", "a<=x>c", "0:0-1:0-1:0-1 4:1-2:1-1:1-2 0:2-3:1-2:2-3");
        Told.dueMerge("abc", "axc", "ac", "a<x=>c", "0:0-1:0-1:0-1 4:1-2:1-2:1-1 0:2-3:2-3:1-2");
        Told.dueMerge("", "x", "y", "<x=y>", "4:0-0:0-1:0-1");
        // The same lines, but longer by one at the end.
        Told.dueMerge("b", "x", "xy", "x<=y>", "3:0-0:0-1:0-1 4:0-1:1-1:1-2");
        Doc.says("Merge", "The result of a chunk consists of the lines of its right part for kind 2");
        Check.due("kind 2, empty", Told.merged(Told.merging(FULL, FULL, "")), "");
        Check.due("kind 2, full", Told.merged(Told.merging("", "", FULL)), FULL);
        Check.due("kind 1, empty", Told.merged(Told.merging(FULL, "", FULL)), "");
        Check.due("kind 1, full", Told.merged(Told.merging("", FULL, "")), FULL);
        Check.due("kind 3, empty", Told.merged(Told.merging(FULL, "", "")), "");
        Check.due("kind 3, full", Told.merged(Told.merging("", FULL, FULL)), FULL);
        Check.due("kind 0, full", Told.merged(Told.merging(FULL, FULL, FULL)), FULL);
    }

    private static void shrinkingRules() {
        Doc.says("Shrinking", "If shrinking is on, which it is at first, a conflict is made smaller.");
        MergeWorkbench x = Check.with("acb", "aypxb", "ayqxb");
        x.merge(0, 1, 2);
        Check.due("at first", Told.merged(x), "ay<p=q>xb");
        x.setShrinking(false);
        x.merge(0, 1, 2);
        Check.due("when it is off", Told.merged(x), "a<ypx=yqx>b");
        Check.due("chunks when it is off", Told.chunks(x), "0:0-1:0-1:0-1 4:1-2:1-4:1-4 0:2-3:4-5:4-5");
        x.setShrinking(true);
        x.merge(0, 1, 2);
        Check.due("when it is on again", Told.merged(x), "ay<p=q>xb");
        Doc.says("Shrinking", "The base part of the conflict stays.");
        Check.due("base begin", x.chunk(2, 1), 1);
        Check.due("base end", x.chunk(2, 2), 2);
        x.resolve(0, 4);
        Check.due("its base part", Told.merged(x), "aycxb");
        // Lines that base and sides have in common are no part of what is taken away.
        MergeWorkbench y = Told.merging("acdb", "acyb", "adyb");
        Check.due("chunks", Told.chunks(y), "0:0-1:0-1:0-1 4:1-3:1-2:1-2 3:3-3:2-3:2-3 0:3-4:3-4:3-4");
        y.resolve(0, 4);
        Check.due("its base part", Told.merged(y), "acdyb");
    }

    private static void shrunkEnds() {
        Doc.says("Shrinking", "The longest common beginning of its left and its right part");
        Told.dueMerge("c", "xp", "xq", "x<p=q>", "3:0-0:0-1:0-1 4:0-1:1-2:1-2");
        Told.dueMerge("c", "p", "q", "<p=q>", "4:0-1:0-1:0-1");
        Told.dueMerge("acb", "axypb", "axyqb", "axy<p=q>b",
                "0:0-1:0-1:0-1 3:1-1:1-3:1-3 4:1-2:3-4:3-4 0:2-3:4-5:4-5");
        Told.dueMerge("c", "xx", "xxx", "xx<=x>", "3:0-0:0-2:0-2 4:0-1:2-2:2-3");
        Told.dueMerge("c", "xxx", "xx", "xx<x=>", "3:0-0:0-2:0-2 4:0-1:2-3:2-2");
        Told.dueMerge("y", FULL, FULL.substring(0, 23), FULL.substring(0, 23) + "<x=>",
                "3:0-0:0-23:0-23 4:0-1:23-24:23-23");
        // The b behind the shorter part is stable, and so no part of what is in common.
        Told.dueMerge("apb", "axb", "axbpb", "ax<=bp>b", "0:0-1:0-1:0-1 3:1-1:1-2:1-2 4:1-2:2-2:2-4 0:2-3:2-3:4-5");
        Told.dueMerge("apb", "axbpb", "axb", "ax<bp=>b", "0:0-1:0-1:0-1 3:1-1:1-2:1-2 4:1-2:2-4:2-2 0:2-3:4-5:2-3");
        Doc.says("Shrinking", "Of what is left, the longest common end");
        Told.dueMerge("c", "px", "qx", "<p=q>x", "4:0-1:0-1:0-1 3:1-1:1-2:1-2");
        Told.dueMerge("c", "xpy", "xqy", "x<p=q>y", "3:0-0:0-1:0-1 4:0-1:1-2:1-2 3:1-1:2-3:2-3");
        Told.dueMerge("acdb", "apyxb", "aqyxb", "a<p=q>yxb",
                "0:0-1:0-1:0-1 4:1-3:1-2:1-2 3:3-3:2-4:2-4 0:3-4:4-5:4-5");
        // The a before the shorter part is stable.
        Told.dueMerge("apb", "axb", "apaxb", "a<=pa>xb", "0:0-1:0-1:0-1 4:1-2:1-1:1-3 3:2-2:1-2:3-4 0:2-3:2-3:4-5");
        Told.dueMerge("apb", "apaxb", "axb", "a<pa=>xb", "0:0-1:0-1:0-1 4:1-2:1-3:1-1 3:2-2:3-4:1-2 0:2-3:4-5:2-3");
        // What the beginning has taken is no part of the end.
        Told.dueMerge("c", "xyx", "xyxyx", "xyx<=yx>", "3:0-0:0-3:0-3 4:0-1:3-3:3-5");
        Told.dueMerge("c", "xy", "xzy", "x<=z>y", "3:0-0:0-1:0-1 4:0-1:1-1:1-2 3:1-1:1-2:2-3");
        Told.dueMerge("c", "xzy", "xy", "x<z=>y", "3:0-0:0-1:0-1 4:0-1:1-2:1-1 3:1-1:2-3:1-2");
        Told.dueMerge("y", FULL, FULL.substring(1), "<a=>" + FULL.substring(1), "4:0-1:0-1:0-0 3:1-1:1-24:0-23");
    }

    private static void resolutions() {
        Doc.says("Resolutions", "Conflicts are numbered from 0 in their order.");
        MergeWorkbench x = twoConflicts();
        x.resolve(1, 0);
        Check.due("the second one", Told.merged(x), "a<xx=y>cp");
        x.resolve(0, 0);
        Check.due("the first one", Told.merged(x), "axxcp");
        MergeWorkbench most = mostConflicts();
        most.resolve(0, 4);
        Check.due("the first of the most", most.merged(0), 15);
        most.resolve(14, 1);
        Check.due("the last of the most", most.merged(most.mergedLength() - 1), 17);
        Doc.says("Resolutions", "Each is unresolved at first.");
        Check.due("two", Told.merged(twoConflicts()), "a<xx=y>c<p=qq>");
        Check.due("the most", mostConflicts().unresolved(), 15);
        Doc.says("Resolutions", "The result of a resolved conflict consists of the lines of its left part (choice 0)");
        String[] due = {"axx", "ay", "axxy", "ayxx", "ab"};
        for (int choice = 0; choice < 5; choice++) {
            x.resolve(0, choice);
            Check.due("choice " + choice, Told.merged(x), due[choice] + "cp");
        }
        MergeWorkbench left = Told.merging("", "xp", "xq");
        left.resolve(0, 4);
        Check.due("an empty base part", Told.merged(left), "x");
        MergeWorkbench empty = Told.merging("b", "", "y");
        empty.resolve(0, 0);
        Check.due("an empty left part", Told.merged(empty), "");
        empty.resolve(0, 2);
        Check.due("an empty left part, then the right one", Told.merged(empty), "y");
        Doc.says("Resolutions", "The result of an unresolved conflict consists of -1");
        Check.due("both parts", Told.merged(Told.merging("b", "x", "y")), "<x=y>");
        Check.due("an empty left part", Told.merged(Told.merging("b", "", "y")), "<=y>");
        Check.due("an empty right part", Told.merged(Told.merging("b", "x", "")), "<x=>");
        Check.due("all of three full documents", Told.merging("z9z9z6", FULL, "y9y9y6").mergedLength(), 51);
        Doc.says("Resolutions", "The merged document is the sequence of the results of all chunks.");
        Check.due("the most", Told.merged(mostConflicts()), "<=r>a<=r>b<=r>c<=r>d<=r>e<q=>f<q=>g<q=>h<q=>i<q=>j"
                + "<q=r>k<q=r>l<q=r>m<q=r>n<q=r>");
        Check.due("nothing", Told.merged(Told.merging("", "", "")), "");
    }

    private static void setShrinking() {
        Doc.says(22, "Turns shrinking on or off.");
        MergeWorkbench x = new MergeWorkbench();
        Check.due("on at first", x.setShrinking(true), true);
        Check.due("on stays on", x.setShrinking(false), true);
        Check.due("off", x.setShrinking(false), false);
        Check.due("off stays off", x.setShrinking(true), false);
        Check.due("on again", x.setShrinking(true), true);
        Doc.says(22, "This is used by later calls of merge.");
        MergeWorkbench y = Told.merging("c", "xp", "xq");
        y.setShrinking(false);
        Check.due("the merge before", Told.merged(y), "x<p=q>");
        y.resolve(0, 1);
        Check.due("the merge before, resolved", Told.merged(y), "xq");
        y.merge(0, 1, 2);
        y.setShrinking(true);
        Check.due("the merge between", Told.merged(y), "<xp=xq>");
    }

    private static void merge() {
        Doc.says(23, "Merges three documents in the present mode.");
        MergeWorkbench x = Check.with("xaabb", "aabbx", "xaabb", "");
        Check.due("conflicts by mode 0", x.merge(0, 1, 2), 0);
        Check.due("chunks by mode 0", Told.chunks(x), "1:0-1:0-0:0-1 0:1-5:0-4:1-5 1:5-5:4-5:5-5");
        x.setMode(1);
        Check.due("conflicts by mode 1", x.merge(0, 1, 2), 0);
        Check.due("chunks by mode 1", Told.chunks(x), "1:0-0:0-4:0-0 0:0-1:4-5:0-1 1:1-5:5-5:1-5");
        x.merge(0, 2, 1);
        Check.due("the right one by mode 1", Told.chunks(x), "2:0-0:0-0:0-4 0:0-1:0-1:4-5 2:1-5:1-5:5-5");
        Check.due("an empty base", x.merge(3, 0, 1), 1);
        Check.due("three times the same", x.merge(1, 1, 1), 0);
        Check.due("three empty ones", x.merge(3, 3, 3), 0);
        Check.due("as many conflicts as there can be", mostConflicts().merge(0, 1, 2), 15);
        Check.due("full documents", Told.merging("z9z9z6", FULL, "y9y9y6").merge(0, 1, 2), 1);
        Doc.says(23, "Throws IllegalArgumentException if one of the registers does not exist");
        for (int register : new int[] {-1, 4, LEAST, GREATEST}) {
            Check.dueRefused("merge base " + register, ARGUMENT, State::feeding, y -> y.merge(register, 0, 3));
            Check.dueRefused("merge left " + register, ARGUMENT, State::feeding, y -> y.merge(0, register, 3));
            Check.dueRefused("merge right " + register, ARGUMENT, State::feeding, y -> y.merge(0, 3, register));
            Check.dueRefused("the first merge", ARGUMENT, MergeWorkbench::new, y -> y.merge(0, 3, register));
        }
    }

    private static void mergeIsKept() {
        Doc.says(23, "The merge is kept, with the lines that the documents have now, until the next call.");
        MergeWorkbench x = Told.merging("abc", "axc", "ayc");
        Check.read(x, 0, "q");
        Check.read(x, 1, "");
        Check.read(x, 2, FULL);
        x.compare(1, 2);
        x.setMode(1);
        Check.due("merged afterwards", Told.merged(x), "a<x=y>c");
        x.resolve(0, 3);
        Check.due("resolved afterwards", Told.merged(x), "ayxc");
        x.resolve(0, 4);
        Check.due("the base part afterwards", Told.merged(x), "abc");
        Check.due("the next one", x.merge(0, 1, 2), 1);
        Check.due("its merged document", Told.merged(x), "<=" + FULL + ">");
        Check.due("it is unresolved", x.unresolved(), 1);
        MergeWorkbench shorter = Check.with("a9a9a6", "aba", "ba", "");
        Check.due("a full one", shorter.merge(0, 0, 0), 0);
        Check.due("a short one", shorter.merge(1, 2, 2), 0);
        Check.due("its chunks", Told.chunks(shorter), "3:0-1:0-0:0-0 0:1-3:0-2:0-2");
        Check.due("a full one", shorter.merge(0, 0, 0), 0);
        Check.due("a short base", shorter.merge(2, 1, 1), 0);
        Check.due("its chunks", Told.chunks(shorter), "3:0-0:0-1:0-1 0:0-2:1-3:1-3");
        Check.due("one of nothing", shorter.merge(3, 3, 3), 0);
        Check.due("its length", shorter.mergedLength(), 0);
        Check.due("one without conflict", x.merge(1, 1, 1), 0);
        Check.due("its chunks", x.chunks(), 0);
        Check.dueThrows("no conflict of before", ELEMENT, () -> x.resolve(0, 0));
    }

    private static void chunks() {
        Doc.says(24, "Returns the number of chunks.");
        Check.due("none", Told.merging("", "", "").chunks(), 0);
        Check.due("one of 24 stable lines", Told.merging(FULL, FULL, FULL).chunks(), 1);
        Check.due("one conflict", Told.merging("a", "b", "c").chunks(), 1);
        Check.due("three of one region", Told.merging("c", "xpy", "xqy").chunks(), 3);
        Check.due("with the most conflicts", mostConflicts().chunks(), 29);
        Check.due("five regions, each made three", Told.merging("xaxbxcxdx", "rtsartsbrtscrtsdrts",
                "rusarusbruscrusdrus").chunks(), 19);
        Doc.says(24, "Throws IllegalStateException if there is no merge");
        Check.dueRefused("chunks", STATE, State::full, MergeWorkbench::chunks);
    }

    private static void chunk() {
        Doc.says(25, "Returns a property of a chunk.");
        MergeWorkbench most = mostConflicts();
        Check.due("kind of the first", most.chunk(0, 0), 4);
        Check.due("right end of the last", most.chunk(28, 6), 24);
        Doc.says(25, "- index: the index of the chunk, from 0");
        Check.due("kind of chunk 0", twoConflicts().chunk(0, 0), 0);
        Check.due("kind of chunk 1", twoConflicts().chunk(1, 0), 4);
        Check.due("kind of chunk 3", twoConflicts().chunk(3, 0), 4);
        Doc.says(25, "- what: 0 for its kind; 1 and 2 for the begin and the end of its base part;");
        MergeWorkbench x = Told.merging("abpc", "xxxabqqc", "yyyyyyabrrrc");
        Check.due("all properties", Told.chunks(x), "4:0-0:0-3:0-6 0:0-2:3-5:6-8 4:2-3:5-7:8-11 0:3-4:7-8:11-12");
        Doc.says(25, "Throws IllegalStateException if there is no merge");
        Check.dueRefused("chunk", STATE, State::full, y -> y.chunk(0, 0));
        Doc.says(25, "Throws IndexOutOfBoundsException if there is no such chunk");
        for (int index : new int[] {-1, 4, LEAST, GREATEST}) {
            Check.dueRefused("chunk " + index, INDEX, MergeEdgeTest::twoConflicts, y -> y.chunk(index, 0));
        }
        Check.dueRefused("chunk 0 of none", INDEX, () -> Told.merging("", "", ""), y -> y.chunk(0, 0));
        Check.dueRefused("chunk 29 of 29", INDEX, MergeEdgeTest::mostConflicts, y -> y.chunk(29, 0));
        Doc.says(25, "Throws IllegalArgumentException if what is out of range");
        for (int what : new int[] {-1, 7, 8, LEAST, GREATEST}) {
            Check.dueRefused("what " + what, ARGUMENT, MergeEdgeTest::twoConflicts, y -> y.chunk(0, what));
            Check.dueRefused("what " + what, ARGUMENT, MergeEdgeTest::twoConflicts, y -> y.chunk(3, what));
        }
    }

    private static void resolve() {
        Doc.says(26, "Resolves a conflict, which may have been resolved before.");
        MergeWorkbench x = twoConflicts();
        Check.due("first", x.resolve(0, 0), 2);
        Check.due("again", x.resolve(0, 1), 1);
        Check.due("the same again", x.resolve(0, 1), 1);
        Check.due("one is left", x.unresolved(), 1);
        Check.due("what was chosen last", Told.merged(x), "ayc<p=qq>");
        Doc.says(26, "- choice: the choice, 0 to 4");
        int[] lengths = {2, 1, 3, 3, 1};
        for (int choice = 0; choice < 5; choice++) {
            Check.due("choice " + choice, twoConflicts().resolve(0, choice), lengths[choice]);
        }
        Check.due("an empty base part", Told.merging("", "x", "y").resolve(0, 4), 0);
        Check.due("an empty left part", Told.merging("b", "", "y").resolve(0, 0), 0);
        Check.due("an empty right part", Told.merging("b", "x", "").resolve(0, 1), 0);
        Check.due("two full parts", Told.merging("z9z9z6", FULL, "y9y9y6").resolve(0, 3), 48);
        Doc.says(26, "Throws IllegalStateException if there is no merge");
        Check.dueRefused("resolve", STATE, State::full, y -> y.resolve(0, 0));
        Doc.says(26, "Throws NoSuchElementException if there is no such conflict");
        for (int conflict : new int[] {-1, 2, 3, LEAST, GREATEST}) {
            Check.dueRefused("resolve " + conflict, ELEMENT, MergeEdgeTest::twoConflicts, y -> y.resolve(conflict, 0));
        }
        Check.dueRefused("resolve 15 of 15", ELEMENT, MergeEdgeTest::mostConflicts, y -> y.resolve(15, 0));
        Check.due("resolve 14 of 15", mostConflicts().resolve(14, 0), 1);
        Check.dueRefused("a chunk without conflict", ELEMENT, () -> Told.merging("a", "b", "a"), y -> y.resolve(0, 0));
        Check.dueRefused("no chunk", ELEMENT, () -> Told.merging("", "", ""), y -> y.resolve(0, 0));
        Doc.says(26, "Throws IllegalArgumentException if the choice is out of range");
        for (int choice : new int[] {-1, 5, LEAST, GREATEST}) {
            Check.dueRefused("choice " + choice, ARGUMENT, MergeEdgeTest::twoConflicts, y -> y.resolve(1, choice));
            Check.dueRefused("choice " + choice, ARGUMENT, State::feeding, y -> y.resolve(0, choice));
        }
    }

    private static void unresolved() {
        Doc.says(27, "Returns the number of unresolved conflicts.");
        Check.due("of no chunk", Told.merging("", "", "").unresolved(), 0);
        Check.due("of no conflict", Told.merging(FULL, FULL, "").unresolved(), 0);
        MergeWorkbench most = mostConflicts();
        for (int left = 15; left > 0; left--) {
            Check.due("unresolved", most.unresolved(), left);
            most.resolve(left - 1, left % 5);
        }
        Check.due("all resolved", most.unresolved(), 0);
        Doc.says(27, "Throws IllegalStateException if there is no merge");
        Check.dueRefused("unresolved", STATE, State::full, MergeWorkbench::unresolved);
    }

    private static void mergedLength() {
        Doc.says(28, "Returns the length of the merged document.");
        Check.due("nothing", Told.merging("", "", "").mergedLength(), 0);
        Check.due("three marks", Told.merging("b", "", "x").mergedLength(), 4);
        Check.due("the longest with marks", mostConflicts().mergedLength(), 79);
        MergeWorkbench x = Told.merging("z9z9z6", FULL, "y9y9y6");
        Check.due("one conflict of full parts", x.mergedLength(), 51);
        x.resolve(0, 2);
        Check.due("both parts", x.mergedLength(), 48);
        x.resolve(0, 4);
        Check.due("the base part", x.mergedLength(), 24);
        Doc.says(28, "Throws IllegalStateException if there is no merge");
        Check.dueRefused("mergedLength", STATE, State::full, MergeWorkbench::mergedLength);
    }

    private static void merged() {
        Doc.says(29, "Returns an element of the merged document.");
        Check.due("the first line", Told.merging(FULL, FULL, FULL).merged(0), 0);
        Check.due("the last line", Told.merging(FULL, FULL, FULL).merged(23), 23);
        Doc.says(29, "- index: the index, from 0");
        Check.due("the first element", mostConflicts().merged(0), -1);
        Check.due("the last element", mostConflicts().merged(78), -3);
        Doc.says(29, "Returns the line, or -1, -2 or -3.");
        int[] due = {0, -1, 25, -2, 24, -3, 2};
        MergeWorkbench x = Told.merging("abc", "azc", "ayc");
        for (int index = 0; index < due.length; index++) {
            Check.due("merged(" + index + ")", x.merged(index), due[index]);
        }
        Doc.says(29, "Throws IllegalStateException if there is no merge");
        Check.dueRefused("merged", STATE, State::full, y -> y.merged(0));
        Doc.says(29, "Throws IndexOutOfBoundsException if there is no such index");
        for (int index : new int[] {-1, 14, -3, LEAST, GREATEST}) {
            Check.dueRefused("merged(" + index + ")", INDEX, MergeEdgeTest::twoConflicts, y -> y.merged(index));
        }
        Check.due("the last of 14", twoConflicts().merged(13), -3);
        Check.dueRefused("merged(0) of none", INDEX, () -> Told.merging("", "", ""), y -> y.merged(0));
        Check.dueRefused("merged(79) of 79", INDEX, MergeEdgeTest::mostConflicts, y -> y.merged(79));
        x.resolve(0, 4);
        Check.dueThrows("merged(3) of a resolved one", INDEX, () -> x.merged(3));
    }

    /** The left document has lines before the stable one, the right one has lines behind it. */
    private static MergeWorkbench mergingTo(int before, int behind) {
        return Told.merging("z", FULL.substring(0, before) + "z", "z" + FULL.substring(24 - behind));
    }

    private static void accept() {
        Doc.says(30, "Puts the merged document into a register.");
        MergeWorkbench x = mergingTo(1, 1);
        Check.due("into 3", x.accept(3), 3);
        Check.due("accepted", Check.text(x, 3), "azx");
        Check.due("into 0", x.accept(0), 3);
        Check.due("accepted", Check.text(x, 0), "azx");
        MergeWorkbench empty = Told.merging(FULL, FULL, "");
        Check.due("nothing into a full one", empty.accept(0), 0);
        Check.due("accepted", empty.length(0), 0);
        MergeWorkbench resolved = mostConflicts();
        for (int conflict = 0; conflict < 15; conflict++) {
            resolved.resolve(conflict, 0);
        }
        Check.due("the most conflicts, resolved", resolved.accept(3), 24);
        Check.due("accepted", Check.text(resolved, 3), "abcdeqfqgqhqiqjqkqlqmqnq");
        Doc.says(30, "The merge stays.");
        Check.due("merged afterwards", Told.merged(x), "azx");
        Check.due("chunks afterwards", Told.chunks(x), "1:0-0:0-1:0-0 0:0-1:1-2:0-1 2:1-1:2-2:1-2");
        Check.due("accept it again", x.accept(1), 3);
        Check.due("resolve it again", resolved.resolve(14, 4), 0);
        Check.due("accept it then", resolved.accept(3), 23);
    }

    private static void acceptRefused() {
        Doc.says(30, "Throws IllegalArgumentException if there is no such register");
        for (int register : new int[] {-1, 4, LEAST, GREATEST}) {
            Check.dueRefused("accept into " + register, ARGUMENT, State::feeding, y -> y.accept(register));
        }
        Doc.says(30, "Throws IllegalStateException if there is no merge or an unresolved conflict");
        Check.dueRefused("without merge", STATE, State::full, y -> y.accept(0));
        Check.dueRefused("two unresolved conflicts", STATE, MergeEdgeTest::twoConflicts, y -> y.accept(3));
        Check.dueRefused("the second one unresolved", STATE, State::worked, y -> y.accept(3));
        State.Maker second = () -> {
            MergeWorkbench y = twoConflicts();
            y.resolve(1, 0);
            return y;
        };
        Check.dueRefused("the first one unresolved", STATE, second, y -> y.accept(3));
        MergeWorkbench x = second.make();
        x.resolve(0, 0);
        Check.due("none unresolved", x.accept(3), 5);
        Doc.says(30, "Throws UnsupportedOperationException if the merged document has more than 24 lines");
        Check.due("accept 24 lines", mergingTo(11, 12).accept(3), 24);
        Check.due("accept 24 lines", mergingTo(12, 11).accept(3), 24);
        Check.dueRefused("accept 25 lines", UNSUPPORTED, () -> mergingTo(12, 12), y -> y.accept(3));
        Check.dueRefused("accept 47 lines", UNSUPPORTED, () -> mergingTo(23, 23), y -> y.accept(0));
        MergeWorkbench both = Told.merging("z9z9z6", FULL, "y9y9y6");
        both.resolve(0, 2);
        Check.dueThrows("accept 48 lines", UNSUPPORTED, () -> both.accept(3));
        both.resolve(0, 1);
        Check.due("accept 24 of them", both.accept(3), 24);
    }
}
