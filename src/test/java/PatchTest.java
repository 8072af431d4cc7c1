import java.util.NoSuchElementException;

/** Promises 31 to 34: patches, and how they are applied. */
public final class PatchTest {
    private static final Class<IllegalArgumentException> ARGUMENT = IllegalArgumentException.class;
    private static final Class<IllegalStateException> STATE = IllegalStateException.class;
    private static final Class<IndexOutOfBoundsException> INDEX = IndexOutOfBoundsException.class;
    private static final Class<NoSuchElementException> ELEMENT = NoSuchElementException.class;

    public static void main(String[] args) {
        makePatch();
        makePatchExceptions();
        hunkExceptions();
        patchIsKept();
        applyPlainly();
        distances();
        shift();
        earlierHunks();
        emptyOldParts();
        fuzz();
        reversed();
        applyExceptions();
        outcome();
        Check.end();
    }

    private static MergeWorkbench patching(int context, String a, String b) {
        MergeWorkbench x = Check.with(a, b);
        x.compare(0, 1);
        x.makePatch(context);
        return x;
    }

    private static String hunks(MergeWorkbench x, int count) {
        StringBuilder all = new StringBuilder();
        for (int index = 0; index < count; index++) {
            for (int what = 0; what < 6; what++) {
                all.append(x.hunk(index, what)).append(what < 5 ? "," : " ");
            }
        }
        return all.toString().trim();
    }

    private static void dueHunks(int context, String a, String b, String due) {
        MergeWorkbench x = Check.with(a, b);
        x.compare(0, 1);
        int count = due.isEmpty() ? 0 : due.split(" ").length;
        String call = "hunks of " + a + " and " + b + " with context " + context;
        Check.due(call, x.makePatch(context), count);
        Check.due(call, hunks(x, count), due);
    }

    private static void makePatch() {
        dueHunks(0, "abcdef", "abxdeyf", "2,1,2,1,0,0 5,0,5,1,0,0");
        dueHunks(1, "abcdef", "abxdeyf", "1,5,1,6,1,1");
        dueHunks(3, "abcdef", "abxdeyf", "0,6,0,7,2,1");
        dueHunks(2, "(abcdef)2", "(abxdef)2", "0,5,0,5,2,2 6,5,6,5,2,2");
        dueHunks(3, "(abcdef)2", "(abxdef)2", "0,12,0,12,2,3");
        // Four lines between the differences, then three and two.
        dueHunks(1, "pabcdq", "rabcds", "0,2,0,2,0,1 4,2,4,2,1,0");
        dueHunks(2, "pabcdq", "rabcds", "0,6,0,6,0,0");
        dueHunks(1, "pabcq", "rabcs", "0,2,0,2,0,1 3,2,3,2,1,0");
        dueHunks(1, "pabq", "rabs", "0,4,0,4,0,0");
        dueHunks(0, "paq", "ras", "0,1,0,1,0,0 2,1,2,1,0,0");
        dueHunks(2, "abcd", "abcd", "");
        dueHunks(0, "", "", "");
        dueHunks(3, "", "xy", "0,0,0,2,0,0");
        dueHunks(3, "xy", "", "0,2,0,0,0,0");
        dueHunks(1, "abcdefgh", "xxabcdefgy", "0,1,0,3,0,1 6,2,8,2,1,0");
        // Three differences in one hunk, and one in another.
        dueHunks(1, "abcdefghijk", "xbydzfghiwk", "0,6,0,6,0,1 8,3,8,3,1,1");
    }

    private static void makePatchExceptions() {
        MergeWorkbench x = new MergeWorkbench();
        Check.dueThrows("makePatch(0) without comparison", STATE, () -> x.makePatch(0));
        Check.dueThrows("makePatch(4) without comparison", ARGUMENT, () -> x.makePatch(4));
        x.compare(0, 1);
        Check.dueThrows("makePatch(4)", ARGUMENT, () -> x.makePatch(4));
        Check.dueThrows("makePatch(-1)", ARGUMENT, () -> x.makePatch(-1));
        Check.dueThrows("still no patch", STATE, () -> x.hunk(0, 0));
        Check.due("makePatch(3)", x.makePatch(3), 0);
        MergeWorkbench made = patching(0, "a", "b");
        made.apply(0, 0, false);
        Check.dueThrows("makePatch(4) again", ARGUMENT, () -> made.makePatch(4));
        Check.due("the patch stays", hunks(made, 1), "0,1,0,1,0,0");
        Check.due("the outcomes stay", made.outcome(0, 0), 0);
    }

    private static void hunkExceptions() {
        Check.dueThrows("hunk without patch", STATE, () -> new MergeWorkbench().hunk(-1, 9));
        MergeWorkbench x = patching(1, "abc", "axc");
        Check.dueThrows("hunk(1, 0)", INDEX, () -> x.hunk(1, 0));
        Check.dueThrows("hunk(-1, 9)", INDEX, () -> x.hunk(-1, 9));
        Check.dueThrows("hunk(0, 6)", ARGUMENT, () -> x.hunk(0, 6));
        Check.dueThrows("hunk(0, -1)", ARGUMENT, () -> x.hunk(0, -1));
    }

    private static void patchIsKept() {
        MergeWorkbench x = patching(1, "abc", "axc");
        Check.read(x, 0, "zz");
        Check.read(x, 1, "yyy");
        x.compare(0, 1);
        Check.due("the hunk afterwards", hunks(x, 1), "0,3,0,3,1,1");
        Check.read(x, 2, "abc");
        Check.due("apply afterwards", x.apply(2, 0, false), 1);
        Check.due("applied afterwards", Check.text(x, 2), "axc");
        Check.due("a new patch", x.makePatch(0), 1);
        Check.due("it is of the new comparison", hunks(x, 1), "0,2,0,3,0,0");
    }

    private static String outcomes(MergeWorkbench x, int count) {
        StringBuilder all = new StringBuilder();
        for (int index = 0; index < count; index++) {
            all.append(x.outcome(index, 0)).append(',').append(x.outcome(index, 1)).append(' ');
        }
        return all.toString().trim();
    }

    /** Applies x's patch to the target in register 2, and compares the outcomes and the document. */
    private static void dueApply(MergeWorkbench x, String target, int fuzz, boolean reversed,
            String outcomes, String document) {
        Check.read(x, 2, target);
        int hunks = outcomes.split(" ").length;
        int applied = 0;
        for (String one : outcomes.split(" ")) {
            applied += one.startsWith("-1") ? 0 : 1;
        }
        String call = "apply to " + target + " with fuzz " + fuzz + (reversed ? ", reversed" : "");
        Check.due(call, x.apply(2, fuzz, reversed), applied);
        Check.due("outcomes of " + call, outcomes(x, hunks), outcomes);
        Check.due("document of " + call, Check.text(x, 2), document);
    }

    private static void applyPlainly() {
        MergeWorkbench x = patching(1, "abcdef", "abxdeyf");
        dueApply(x, "abcdef", 0, false, "1,0", "abxdeyf");
        dueApply(x, "abcdefabcdef", 0, false, "1,0", "abxdeyfabcdef");
        dueApply(x, "abxdef", 0, false, "-1,-1", "abxdef");
        dueApply(x, "bcdef", 0, false, "0,0", "bxdeyf");
        dueApply(x, "", 2, false, "-1,-1", "");
        dueApply(x, "abcde", 0, false, "-1,-1", "abcde");
        MergeWorkbench two = patching(0, "paq", "rras");
        dueApply(two, "paq", 0, false, "0,0 2,0", "rras");
        dueApply(two, "pax", 0, false, "0,0 -1,-1", "rrax");
        dueApply(two, "xaq", 0, false, "-1,-1 2,0", "xas");
        MergeWorkbench none = patching(0, "abc", "abc");
        Check.due("apply a patch without hunks", none.apply(0, 0, false), 0);
        Check.due("the document stays", Check.text(none, 0), "abc");
        Check.dueThrows("outcome of no hunk", ELEMENT, () -> none.outcome(0, 0));
    }

    private static void distances() {
        MergeWorkbench x = patching(0, "zzzzzzzzzzzzp", "zzzzzzzzzzzzq");
        dueApply(x, "zzzzzzzzzzzzp", 0, false, "12,0", "zzzzzzzzzzzzq");
        dueApply(x, "z9z2pp", 0, false, "12,0", "zzzzzzzzzzzpq");
        dueApply(x, "z9z2pzp", 0, false, "13,0", "zzzzzzzzzzzpzq");
        dueApply(x, "z9zpzzp", 0, false, "13,0", "zzzzzzzzzzpzzq");
        dueApply(x, "z9zpz4p", 0, false, "10,0", "zzzzzzzzzzqzzzzp");
        dueApply(x, "z2p", 0, false, "2,0", "zzq");
        dueApply(x, "zpz9z2", 0, false, "-1,-1", "zpzzzzzzzzzzz");
        dueApply(x, "zpz9z9z2p", 0, false, "22,0", "zpzzzzzzzzzzzzzzzzzzzzq");
        dueApply(x, "zpz9z9z3p", 0, false, "-1,-1", "zpzzzzzzzzzzzzzzzzzzzzzp");
        // 14 and 10 are as far from 12: the higher one comes first.
        dueApply(x, "z9zpz3p", 0, false, "14,0", "zzzzzzzzzzpzzzq");
    }

    private static void shift() {
        MergeWorkbench x = patching(0, "pabcdefghijklq", "rabcdefghijkls");
        // The first hunk is found 5 lines later, so q is expected 5 later, too.
        dueApply(x, "zzzzzpabcdefghijklq", 0, false, "5,0 18,0", "zzzzzrabcdefghijkls");
        // Of two q, the one at the shifted position.
        dueApply(x, "zzzpzzzzzzzzqzzzq", 0, false, "3,0 16,0", "zzzrzzzzzzzzqzzzs");
        // Without a shift, the nearest to 13.
        dueApply(x, "zzzzzzzzzzzzqzzzq", 0, false, "-1,-1 12,0", "zzzzzzzzzzzzszzzq");
        // The shift is of positions in t as it was, not of the longer new document.
        MergeWorkbench longer = patching(0, "pabcq", "rrrrabcs");
        dueApply(longer, "pabcqabcq", 0, false, "0,0 4,0", "rrrrabcsabcq");
        // The shift of a hunk applied with fuzz is that of its part without the lines left out.
        MergeWorkbench context = patching(1, "zpabcdq", "zrabcds");
        dueApply(context, "yypabcdqzdq", 1, false, "2,1 6,0", "yyrabcdszdq");
    }

    private static void earlierHunks() {
        // The second hunk may not touch what the first one replaced, nor come before it.
        MergeWorkbench x = patching(0, "pap", "ras");
        dueApply(x, "pzz", 0, false, "0,0 -1,-1", "rzz");
        dueApply(x, "pp", 0, false, "0,0 1,0", "rs");
        dueApply(x, "zzzp", 0, false, "3,0 -1,-1", "zzzr");
        MergeWorkbench order = patching(0, "paq", "ras");
        dueApply(order, "qzzp", 0, false, "3,0 -1,-1", "qzzr");
        dueApply(order, "qp", 0, false, "1,0 -1,-1", "qr");
        // A rejected hunk has replaced nothing.
        dueApply(order, "qzz", 0, false, "-1,-1 0,0", "szz");
        // Context lines of an earlier hunk count, but not those that fuzz left out.
        MergeWorkbench context = patching(1, "pabcq", "rabcs");
        dueApply(context, "pacq", 0, false, "0,0 2,0", "racs");
        MergeWorkbench shared = patching(1, "pabaq", "rabas");
        dueApply(shared, "paq", 0, false, "0,0 -1,-1", "raq");
        dueApply(shared, "paq", 1, false, "0,0 2,1", "ras");
    }

    private static void emptyOldParts() {
        MergeWorkbench x = patching(0, "abcdefghijklmno", "abcdefghijklmnoz");
        dueApply(x, "abc", 0, false, "-1,-1", "abc");
        dueApply(x, "abcde", 0, false, "5,0", "abcdez");
        dueApply(x, "abcdefghijklmnopq", 0, false, "15,0", "abcdefghijklmnozpq");
        MergeWorkbench first = patching(0, "abc", "zabc");
        dueApply(first, "", 0, false, "0,0", "z");
        dueApply(first, "q", 0, false, "0,0", "zq");
        // Not before the end of what the first hunk replaced, but at it.
        MergeWorkbench two = patching(0, "pabc", "rabcz");
        dueApply(two, "vvvvvp", 0, false, "5,0 6,0", "vvvvvrz");
        dueApply(two, "p", 0, false, "0,0 1,0", "rz");
        // Two insertions at one position: the second one follows the first.
        MergeWorkbench both = patching(0, "abc", "xabcy");
        dueApply(both, "", 0, false, "0,0 0,0", "xy");
        // With all its context left out, an insertion fits everywhere.
        MergeWorkbench context = patching(1, "abc", "abzc");
        dueApply(context, "qqqq", 1, false, "2,1", "qqzqq");
        dueApply(context, "qqqq", 0, false, "-1,-1", "qqqq");
        dueApply(context, "q", 1, false, "1,1", "qz");
    }

    private static void fuzz() {
        MergeWorkbench x = patching(2, "abcde", "abxde");
        dueApply(x, "qbcdq", 0, false, "-1,-1", "qbcdq");
        dueApply(x, "qbcdq", 1, false, "1,1", "qbxdq");
        dueApply(x, "qbcdq", 2, false, "1,1", "qbxdq");
        dueApply(x, "qqcqq", 1, false, "-1,-1", "qqcqq");
        dueApply(x, "qqcqq", 2, false, "2,2", "qqxqq");
        // Fuzz 0 at any distance comes before fuzz 1 at the expected position.
        dueApply(x, "qbcdqqabcde", 2, false, "6,0", "qbcdqqabxde");
        // The expected position moves with the lines left out.
        dueApply(x, "cqcq", 2, false, "2,2", "cqxq");
        // A hunk at the beginning has less leading context.
        MergeWorkbench first = patching(2, "abcd", "xbcd");
        Check.due("its contexts", hunks(first, 1), "0,3,0,3,0,2");
        dueApply(first, "abq", 1, false, "0,1", "xbq");
        dueApply(first, "qqaq", 2, false, "2,2", "qqxq");
        MergeWorkbench one = patching(1, "abc", "axc");
        dueApply(one, "qbq", 2, false, "1,1", "qxq");
        MergeWorkbench none = patching(0, "b", "x");
        dueApply(none, "q", 2, false, "-1,-1", "q");
        dueApply(none, "qb", 2, false, "1,0", "qx");
    }

    private static void reversed() {
        MergeWorkbench x = patching(1, "abcdefghijkl", "xxabcdefghiykl");
        dueApply(x, "xxabcdefghiykl", 0, true, "0,0 10,0", "abcdefghijkl");
        dueApply(x, "abcdefghijkl", 0, true, "-1,-1 -1,-1", "abcdefghijkl");
        // Expected at 11 in the second document, and so at 13 behind two more lines.
        MergeWorkbench y = patching(0, "abcdefghijkl", "xxabcdefghiykl");
        dueApply(y, "zzxxyzzzzzzzzyzzy", 0, true, "2,0 13,0", "zzyzzzzzzzzjzzy");
        dueApply(y, "xxabcdefghiykl", 0, true, "0,0 11,0", "abcdefghijkl");
        MergeWorkbench fuzzy = patching(1, "abc", "axyc");
        dueApply(fuzzy, "qxyq", 1, true, "1,1", "qbq");
    }

    private static void applyExceptions() {
        MergeWorkbench none = new MergeWorkbench();
        Check.dueThrows("apply without patch", STATE, () -> none.apply(0, 0, false));
        Check.dueThrows("apply to 4 without patch", ARGUMENT, () -> none.apply(4, 0, false));
        Check.dueThrows("apply with fuzz 3 without patch", ARGUMENT, () -> none.apply(0, 3, false));
        MergeWorkbench x = patching(0, "", "z");
        Check.dueThrows("apply to -1", ARGUMENT, () -> x.apply(-1, 0, false));
        Check.dueThrows("apply with fuzz -1", ARGUMENT, () -> x.apply(0, -1, false));
        Check.dueThrows("apply with fuzz 3", ARGUMENT, () -> x.apply(0, 3, true));
        Check.dueThrows("no outcome yet", ELEMENT, () -> x.outcome(0, 0));
        Check.read(x, 2, "(abcdefgh)3");
        Check.dueThrows("apply to a full document", UnsupportedOperationException.class, () -> x.apply(2, 0, false));
        Check.due("the document stays", Check.text(x, 2), "abcdefghabcdefghabcdefgh");
        Check.dueThrows("still no outcome", ELEMENT, () -> x.outcome(0, 0));
        Check.read(x, 3, "bb");
        Check.due("apply", x.apply(3, 0, false), 1);
        Check.due("applied", Check.text(x, 3), "zbb");
        Check.dueThrows("apply too much again", UnsupportedOperationException.class, () -> x.apply(2, 0, false));
        Check.due("the outcomes stay", outcomes(x, 1), "0,0");
        x.delete(2, 0);
        Check.due("apply up to 24 lines", x.apply(2, 0, false), 1);
        Check.due("24 lines", x.length(2), 24);
        // Two lines more, and then three less: what counts is the document in the end.
        MergeWorkbench y = patching(0, "aqqq", "zza");
        Check.read(y, 2, "aqqqb9c9d2");
        Check.due("apply two hunks", y.apply(2, 0, false), 2);
        Check.due("the document in the end", Check.text(y, 2), "zzabbbbbbbbbcccccccccdd");
    }

    private static void outcome() {
        MergeWorkbench x = patching(0, "paq", "ras");
        Check.dueThrows("outcome before apply", ELEMENT, () -> x.outcome(0, 9));
        Check.dueThrows("outcome without patch", ELEMENT, () -> new MergeWorkbench().outcome(0, 0));
        Check.read(x, 2, "zpa");
        Check.due("apply", x.apply(2, 2, false), 1);
        Check.due("outcomes", outcomes(x, 2), "1,0 -1,-1");
        Check.dueThrows("outcome(2, 0)", ELEMENT, () -> x.outcome(2, 0));
        Check.dueThrows("outcome(-1, 9)", ELEMENT, () -> x.outcome(-1, 9));
        Check.dueThrows("outcome(0, 2)", ARGUMENT, () -> x.outcome(0, 2));
        Check.dueThrows("outcome(0, -1)", ARGUMENT, () -> x.outcome(0, -1));
        x.compare(0, 2);
        x.undo();
        Check.due("outcomes afterwards", outcomes(x, 2), "1,0 -1,-1");
        Check.dueThrows("apply wrongly", ARGUMENT, () -> x.apply(0, 9, false));
        Check.due("outcomes after an exception", outcomes(x, 2), "1,0 -1,-1");
        x.apply(0, 0, false);
        Check.due("outcomes of the latest", outcomes(x, 2), "0,0 2,0");
        x.makePatch(0);
        Check.dueThrows("no outcome of a new patch", ELEMENT, () -> x.outcome(0, 0));
    }
}
