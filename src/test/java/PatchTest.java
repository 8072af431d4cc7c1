import java.util.NoSuchElementException;

/** Promises 31 to 34: patches, and how they are applied. */
public final class PatchTest {
    private static final Class<IllegalArgumentException> ARGUMENT = IllegalArgumentException.class;
    private static final Class<IllegalStateException> STATE = IllegalStateException.class;
    private static final Class<IndexOutOfBoundsException> INDEX = IndexOutOfBoundsException.class;
    private static final Class<NoSuchElementException> ELEMENT = NoSuchElementException.class;

    public static void main(String[] args) {
        makePatch();
        makePatchExceptions();
        hunkExceptions();
        patchIsKept();
        applyPlainly();
        distances();
        shift();
        earlierHunks();
        emptyOldParts();
        fuzz();
        reversed();
        applyExceptions();
        outcome();
        Check.end();
    }

    private static void makePatch() {
        Told.dueHunks(0, "abcdef", "abxdeyf", "2,1,2,1,0,0 5,0,5,1,0,0");
        Told.dueHunks(1, "abcdef", "abxdeyf", "1,5,1,6,1,1");
        Told.dueHunks(3, "abcdef", "abxdeyf", "0,6,0,7,2,1");
        Told.dueHunks(2, "(abcdef)2", "(abxdef)2", "0,5,0,5,2,2 6,5,6,5,2,2");
        Told.dueHunks(3, "(abcdef)2", "(abxdef)2", "0,12,0,12,2,3");
        // Four lines between the differences, then three and two.
        Told.dueHunks(1, "pabcdq", "rabcds", "0,2,0,2,0,1 4,2,4,2,1,0");
        Told.dueHunks(2, "pabcdq", "rabcds", "0,6,0,6,0,0");
        Told.dueHunks(1, "pabcq", "rabcs", "0,2,0,2,0,1 3,2,3,2,1,0");
        Told.dueHunks(1, "pabq", "rabs", "0,4,0,4,0,0");
        Told.dueHunks(0, "paq", "ras", "0,1,0,1,0,0 2,1,2,1,0,0");
        Told.dueHunks(2, "abcd", "abcd", "");
        Told.dueHunks(0, "", "", "");
        Told.dueHunks(3, "", "xy", "0,0,0,2,0,0");
        Told.dueHunks(3, "xy", "", "0,2,0,0,0,0");
        Told.dueHunks(1, "abcdefgh", "xxabcdefgy", "0,1,0,3,0,1 6,2,8,2,1,0");
        // Three differences in one hunk, and one in another.
        Told.dueHunks(1, "abcdefghijk", "xbydzfghiwk", "0,6,0,6,0,1 8,3,8,3,1,1");
    }

    private static void makePatchExceptions() {
        MergeWorkbench x = new MergeWorkbench();
        Check.dueThrows("makePatch(0) without comparison", STATE, () -> x.makePatch(0));
        Check.dueThrows("makePatch(4) without comparison", ARGUMENT, () -> x.makePatch(4));
        x.compare(0, 1);
        Check.dueThrows("makePatch(4)", ARGUMENT, () -> x.makePatch(4));
        Check.dueThrows("makePatch(-1)", ARGUMENT, () -> x.makePatch(-1));
        Check.dueThrows("still no patch", STATE, () -> x.hunk(0, 0));
        Check.due("makePatch(3)", x.makePatch(3), 0);
        MergeWorkbench made = Told.patching(0, "a", "b");
        made.apply(0, 0, false);
        Check.dueThrows("makePatch(4) again", ARGUMENT, () -> made.makePatch(4));
        Check.due("the patch stays", Told.hunks(made, 1), "0,1,0,1,0,0");
        Check.due("the outcomes stay", made.outcome(0, 0), 0);
    }

    private static void hunkExceptions() {
        Check.dueThrows("hunk without patch", STATE, () -> new MergeWorkbench().hunk(-1, 9));
        MergeWorkbench x = Told.patching(1, "abc", "axc");
        Check.dueThrows("hunk(1, 0)", INDEX, () -> x.hunk(1, 0));
        Check.dueThrows("hunk(-1, 9)", INDEX, () -> x.hunk(-1, 9));
        Check.dueThrows("hunk(0, 6)", ARGUMENT, () -> x.hunk(0, 6));
        Check.dueThrows("hunk(0, -1)", ARGUMENT, () -> x.hunk(0, -1));
    }

    private static void patchIsKept() {
        MergeWorkbench x = Told.patching(1, "abc", "axc");
        Check.read(x, 0, "zz");
        Check.read(x, 1, "yyy");
        x.compare(0, 1);
        Check.due("the hunk afterwards", Told.hunks(x, 1), "0,3,0,3,1,1");
        Check.read(x, 2, "abc");
        Check.due("apply afterwards", x.apply(2, 0, false), 1);
        Check.due("applied afterwards", Check.text(x, 2), "axc");
        Check.due("a new patch", x.makePatch(0), 1);
        Check.due("it is of the new comparison", Told.hunks(x, 1), "0,2,0,3,0,0");
    }

    private static void applyPlainly() {
        MergeWorkbench x = Told.patching(1, "abcdef", "abxdeyf");
        Told.dueApply(x, "abcdef", 0, false, "1,0", "abxdeyf");
        Told.dueApply(x, "abcdefabcdef", 0, false, "1,0", "abxdeyfabcdef");
        Told.dueApply(x, "abxdef", 0, false, "-1,-1", "abxdef");
        Told.dueApply(x, "bcdef", 0, false, "0,0", "bxdeyf");
        Told.dueApply(x, "", 2, false, "-1,-1", "");
        Told.dueApply(x, "abcde", 0, false, "-1,-1", "abcde");
        MergeWorkbench two = Told.patching(0, "paq", "rras");
        Told.dueApply(two, "paq", 0, false, "0,0 2,0", "rras");
        Told.dueApply(two, "pax", 0, false, "0,0 -1,-1", "rrax");
        Told.dueApply(two, "xaq", 0, false, "-1,-1 2,0", "xas");
        MergeWorkbench none = Told.patching(0, "abc", "abc");
        Check.due("apply a patch without hunks", none.apply(0, 0, false), 0);
        Check.due("the document stays", Check.text(none, 0), "abc");
        Check.dueThrows("outcome of no hunk", ELEMENT, () -> none.outcome(0, 0));
    }

    private static void distances() {
        MergeWorkbench x = Told.patching(0, "zzzzzzzzzzzzp", "zzzzzzzzzzzzq");
        Told.dueApply(x, "zzzzzzzzzzzzp", 0, false, "12,0", "zzzzzzzzzzzzq");
        Told.dueApply(x, "z9z2pp", 0, false, "12,0", "zzzzzzzzzzzpq");
        Told.dueApply(x, "z9z2pzp", 0, false, "13,0", "zzzzzzzzzzzpzq");
        Told.dueApply(x, "z9zpzzp", 0, false, "13,0", "zzzzzzzzzzpzzq");
        Told.dueApply(x, "z9zpz4p", 0, false, "10,0", "zzzzzzzzzzqzzzzp");
        Told.dueApply(x, "z2p", 0, false, "2,0", "zzq");
        Told.dueApply(x, "zpz9z2", 0, false, "-1,-1", "zpzzzzzzzzzzz");
        Told.dueApply(x, "zpz9z9z2p", 0, false, "22,0", "zpzzzzzzzzzzzzzzzzzzzzq");
        Told.dueApply(x, "zpz9z9z3p", 0, false, "-1,-1", "zpzzzzzzzzzzzzzzzzzzzzzp");
        // 14 and 10 are as far from 12: the higher one comes first.
        Told.dueApply(x, "z9zpz3p", 0, false, "14,0", "zzzzzzzzzzpzzzq");
    }

    private static void shift() {
        MergeWorkbench x = Told.patching(0, "pabcdefghijklq", "rabcdefghijkls");
        // The first hunk is found 5 lines later, so q is expected 5 later, too.
        Told.dueApply(x, "zzzzzpabcdefghijklq", 0, false, "5,0 18,0", "zzzzzrabcdefghijkls");
        // Of two q, the one at the shifted position.
        Told.dueApply(x, "zzzpzzzzzzzzqzzzq", 0, false, "3,0 16,0", "zzzrzzzzzzzzqzzzs");
        // Without a shift, the nearest to 13.
        Told.dueApply(x, "zzzzzzzzzzzzqzzzq", 0, false, "-1,-1 12,0", "zzzzzzzzzzzzszzzq");
        // The shift is of positions in t as it was, not of the longer new document.
        MergeWorkbench longer = Told.patching(0, "pabcq", "rrrrabcs");
        Told.dueApply(longer, "pabcqabcq", 0, false, "0,0 4,0", "rrrrabcsabcq");
        // The shift of a hunk applied with fuzz is that of its part without the lines left out.
        MergeWorkbench context = Told.patching(1, "zpabcdq", "zrabcds");
        Told.dueApply(context, "yypabcdqzdq", 1, false, "2,1 6,0", "yyrabcdszdq");
    }

    private static void earlierHunks() {
        // The second hunk may not touch what the first one replaced, nor come before it.
        MergeWorkbench x = Told.patching(0, "pap", "ras");
        Told.dueApply(x, "pzz", 0, false, "0,0 -1,-1", "rzz");
        Told.dueApply(x, "pp", 0, false, "0,0 1,0", "rs");
        Told.dueApply(x, "zzzp", 0, false, "3,0 -1,-1", "zzzr");
        MergeWorkbench order = Told.patching(0, "paq", "ras");
        Told.dueApply(order, "qzzp", 0, false, "3,0 -1,-1", "qzzr");
        Told.dueApply(order, "qp", 0, false, "1,0 -1,-1", "qr");
        // A rejected hunk has replaced nothing.
        Told.dueApply(order, "qzz", 0, false, "-1,-1 0,0", "szz");
        // Context lines of an earlier hunk count, but not those that fuzz left out.
        MergeWorkbench context = Told.patching(1, "pabcq", "rabcs");
        Told.dueApply(context, "pacq", 0, false, "0,0 2,0", "racs");
        MergeWorkbench shared = Told.patching(1, "pabaq", "rabas");
        Told.dueApply(shared, "paq", 0, false, "0,0 -1,-1", "raq");
        Told.dueApply(shared, "paq", 1, false, "0,0 2,1", "ras");
    }

    private static void emptyOldParts() {
        MergeWorkbench x = Told.patching(0, "abcdefghijklmno", "abcdefghijklmnoz");
        Told.dueApply(x, "abc", 0, false, "-1,-1", "abc");
        Told.dueApply(x, "abcde", 0, false, "5,0", "abcdez");
        Told.dueApply(x, "abcdefghijklmnopq", 0, false, "15,0", "abcdefghijklmnozpq");
        MergeWorkbench first = Told.patching(0, "abc", "zabc");
        Told.dueApply(first, "", 0, false, "0,0", "z");
        Told.dueApply(first, "q", 0, false, "0,0", "zq");
        // Not before the end of what the first hunk replaced, but at it.
        MergeWorkbench two = Told.patching(0, "pabc", "rabcz");
        Told.dueApply(two, "vvvvvp", 0, false, "5,0 6,0", "vvvvvrz");
        Told.dueApply(two, "p", 0, false, "0,0 1,0", "rz");
        // Two insertions at one position: the second one follows the first.
        MergeWorkbench both = Told.patching(0, "abc", "xabcy");
        Told.dueApply(both, "", 0, false, "0,0 0,0", "xy");
        // With all its context left out, an insertion fits everywhere.
        MergeWorkbench context = Told.patching(1, "abc", "abzc");
        Told.dueApply(context, "qqqq", 1, false, "2,1", "qqzqq");
        Told.dueApply(context, "qqqq", 0, false, "-1,-1", "qqqq");
        Told.dueApply(context, "q", 1, false, "1,1", "qz");
    }

    private static void fuzz() {
        MergeWorkbench x = Told.patching(2, "abcde", "abxde");
        Told.dueApply(x, "qbcdq", 0, false, "-1,-1", "qbcdq");
        Told.dueApply(x, "qbcdq", 1, false, "1,1", "qbxdq");
        Told.dueApply(x, "qbcdq", 2, false, "1,1", "qbxdq");
        Told.dueApply(x, "qqcqq", 1, false, "-1,-1", "qqcqq");
        Told.dueApply(x, "qqcqq", 2, false, "2,2", "qqxqq");
        // Fuzz 0 at any distance comes before fuzz 1 at the expected position.
        Told.dueApply(x, "qbcdqqabcde", 2, false, "6,0", "qbcdqqabxde");
        // The expected position moves with the lines left out.
        Told.dueApply(x, "cqcq", 2, false, "2,2", "cqxq");
        // A hunk at the beginning has less leading context.
        MergeWorkbench first = Told.patching(2, "abcd", "xbcd");
        Check.due("its contexts", Told.hunks(first, 1), "0,3,0,3,0,2");
        Told.dueApply(first, "abq", 1, false, "0,1", "xbq");
        Told.dueApply(first, "qqaq", 2, false, "2,2", "qqxq");
        MergeWorkbench one = Told.patching(1, "abc", "axc");
        Told.dueApply(one, "qbq", 2, false, "1,1", "qxq");
        MergeWorkbench none = Told.patching(0, "b", "x");
        Told.dueApply(none, "q", 2, false, "-1,-1", "q");
        Told.dueApply(none, "qb", 2, false, "1,0", "qx");
    }

    private static void reversed() {
        MergeWorkbench x = Told.patching(1, "abcdefghijkl", "xxabcdefghiykl");
        Told.dueApply(x, "xxabcdefghiykl", 0, true, "0,0 10,0", "abcdefghijkl");
        Told.dueApply(x, "abcdefghijkl", 0, true, "-1,-1 -1,-1", "abcdefghijkl");
        // Expected at 11 in the second document, and so at 13 behind two more lines.
        MergeWorkbench y = Told.patching(0, "abcdefghijkl", "xxabcdefghiykl");
        Told.dueApply(y, "zzxxyzzzzzzzzyzzy", 0, true, "2,0 13,0", "zzyzzzzzzzzjzzy");
        Told.dueApply(y, "xxabcdefghiykl", 0, true, "0,0 11,0", "abcdefghijkl");
        MergeWorkbench fuzzy = Told.patching(1, "abc", "axyc");
        Told.dueApply(fuzzy, "qxyq", 1, true, "1,1", "qbq");
    }

    private static void applyExceptions() {
        MergeWorkbench none = new MergeWorkbench();
        Check.dueThrows("apply without patch", STATE, () -> none.apply(0, 0, false));
        Check.dueThrows("apply to 4 without patch", ARGUMENT, () -> none.apply(4, 0, false));
        Check.dueThrows("apply with fuzz 3 without patch", ARGUMENT, () -> none.apply(0, 3, false));
        MergeWorkbench x = Told.patching(0, "", "z");
        Check.dueThrows("apply to -1", ARGUMENT, () -> x.apply(-1, 0, false));
        Check.dueThrows("apply with fuzz -1", ARGUMENT, () -> x.apply(0, -1, false));
        Check.dueThrows("apply with fuzz 3", ARGUMENT, () -> x.apply(0, 3, true));
        Check.dueThrows("no outcome yet", ELEMENT, () -> x.outcome(0, 0));
        Check.read(x, 2, "(abcdefgh)3");
        Check.dueThrows("apply to a full document", UnsupportedOperationException.class, () -> x.apply(2, 0, false));
        Check.due("the document stays", Check.text(x, 2), "abcdefghabcdefghabcdefgh");
        Check.dueThrows("still no outcome", ELEMENT, () -> x.outcome(0, 0));
        Check.read(x, 3, "bb");
        Check.due("apply", x.apply(3, 0, false), 1);
        Check.due("applied", Check.text(x, 3), "zbb");
        Check.dueThrows("apply too much again", UnsupportedOperationException.class, () -> x.apply(2, 0, false));
        Check.due("the outcomes stay", Told.outcomes(x, 1), "0,0");
        x.delete(2, 0);
        Check.due("apply up to 24 lines", x.apply(2, 0, false), 1);
        Check.due("24 lines", x.length(2), 24);
        // Two lines more, and then three less: what counts is the document in the end.
        MergeWorkbench y = Told.patching(0, "aqqq", "zza");
        Check.read(y, 2, "aqqqb9c9d2");
        Check.due("apply two hunks", y.apply(2, 0, false), 2);
        Check.due("the document in the end", Check.text(y, 2), "zzabbbbbbbbbcccccccccdd");
    }

    private static void outcome() {
        MergeWorkbench x = Told.patching(0, "paq", "ras");
        Check.dueThrows("outcome before apply", ELEMENT, () -> x.outcome(0, 9));
        Check.dueThrows("outcome without patch", ELEMENT, () -> new MergeWorkbench().outcome(0, 0));
        Check.read(x, 2, "zpa");
        Check.due("apply", x.apply(2, 2, false), 1);
        Check.due("outcomes", Told.outcomes(x, 2), "1,0 -1,-1");
        Check.dueThrows("outcome(2, 0)", ELEMENT, () -> x.outcome(2, 0));
        Check.dueThrows("outcome(-1, 9)", ELEMENT, () -> x.outcome(-1, 9));
        Check.dueThrows("outcome(0, 2)", ARGUMENT, () -> x.outcome(0, 2));
        Check.dueThrows("outcome(0, -1)", ARGUMENT, () -> x.outcome(0, -1));
        x.compare(0, 2);
        x.undo();
        Check.due("outcomes afterwards", Told.outcomes(x, 2), "1,0 -1,-1");
        Check.dueThrows("apply wrongly", ARGUMENT, () -> x.apply(0, 9, false));
        Check.due("outcomes after an exception", Told.outcomes(x, 2), "1,0 -1,-1");
        x.apply(0, 0, false);
        Check.due("outcomes of the latest", Told.outcomes(x, 2), "0,0 2,0");
        x.makePatch(0);
        Check.dueThrows("no outcome of a new patch", ELEMENT, () -> x.outcome(0, 0));
    }
}
