import java.util.NoSuchElementException;

/** Promises 31 to 34, at the boundaries that the document names: each sentence has a test of its own. */
public final class PatchEdgeTest {
    private static final Class<IllegalArgumentException> ARGUMENT = IllegalArgumentException.class;
    private static final Class<IllegalStateException> STATE = IllegalStateException.class;
    private static final Class<IndexOutOfBoundsException> INDEX = IndexOutOfBoundsException.class;
    private static final Class<NoSuchElementException> ELEMENT = NoSuchElementException.class;
    private static final Class<UnsupportedOperationException> UNSUPPORTED = UnsupportedOperationException.class;
    private static final int LEAST = Integer.MIN_VALUE;
    private static final int GREATEST = Integer.MAX_VALUE;
    private static final String FULL = "abcdefghijklmnopqrstuvwx";

    public static void main(String[] args) {
        hunksOfContext();
        hunkParts();
        fuzzFromZeroToTwo();
        reversedParts();
        triedFuzz();
        linesLeftOut();
        expectedPosition();
        shift();
        distances();
        endOfEarlierHunks();
        oldPartWithoutLines();
        firstPosition();
        rejected();
        makePatch();
        makePatchRefused();
        hunk();
        apply();
        applyRefused();
        outcome();
        outcomeRefused();
        Doc.allTested(31, 34, "Patches", "Applying");
        Check.end();
    }

    /** With context 0, sixteen hunks: as many as there can be. */
    private static MergeWorkbench mostHunks() {
        return Told.patching(0, "ppapbpcpdpepfpgphijklmno", "abcdefghqiqjqkqlqmqnqoqq");
    }

    /** Two hunks, of which the second one is rejected. */
    private static MergeWorkbench applied() {
        MergeWorkbench x = Told.patching(0, "paq", "ras");
        Check.read(x, 2, "zp");
        x.apply(2, 1, false);
        return x;
    }

    // ---- patches

    private static void hunksOfContext() {
        Doc.says("Patches", "A patch is made from the comparison with a number c of context lines.");
        Told.dueHunks(0, "", "", "");
        Told.dueHunks(3, FULL, FULL, "");
        Told.dueHunks(0, "abc", "axc", "1,1,1,1,0,0");
        Told.dueHunks(3, FULL, "", "0,24,0,0,0,0");
        Told.dueHunks(3, "", FULL, "0,0,0,24,0,0");
        Told.dueHunks(0, FULL, "z9z9z6", "0,24,0,24,0,0");
        Check.due("the most hunks", Told.hunks(mostHunks(), 16).split(" ").length, 16);
        Doc.says("Patches", "Two successive differences belong to the same hunk");
        Told.dueHunks(0, "paq", "ras", "0,1,0,1,0,0 2,1,2,1,0,0");
        Told.dueHunks(1, "pabq", "rabs", "0,4,0,4,0,0");
        Told.dueHunks(1, "pabcq", "rabcs", "0,2,0,2,0,1 3,2,3,2,1,0");
        Told.dueHunks(2, "pabcdq", "rabcds", "0,6,0,6,0,0");
        Told.dueHunks(2, "pabcdeq", "rabcdes", "0,3,0,3,0,2 4,3,4,3,2,0");
        Told.dueHunks(3, "pabcdefq", "rabcdefs", "0,8,0,8,0,0");
        Told.dueHunks(3, "pabcdefgq", "rabcdefgs", "0,4,0,4,0,3 5,4,5,4,3,0");
        // What lies between them in b has as many lines; the differences themselves do not count.
        Told.dueHunks(1, "abc", "xyzabuvc", "0,3,0,8,0,1");
        Told.dueHunks(1, "ppppabqqqqc", "abc", "0,11,0,3,0,1");
    }

    private static void hunkParts() {
        Doc.says("Patches", "A hunk has an old part");
        Told.dueHunks(3, "pabc", "rabc", "0,4,0,4,0,3");
        Told.dueHunks(3, "apbcd", "arbcd", "0,5,0,5,1,3");
        Told.dueHunks(3, "abpcd", "abrcd", "0,5,0,5,2,2");
        Told.dueHunks(3, "abcpd", "abcrd", "0,5,0,5,3,1");
        Told.dueHunks(3, "abcdp", "abcdr", "1,4,1,4,3,0");
        Told.dueHunks(3, "pabcd", "rabcd", "0,4,0,4,0,3");
        Told.dueHunks(2, "abcpdef", "abcrdef", "1,5,1,5,2,2");
        Told.dueHunks(1, "abcpdef", "abcrdef", "2,3,2,3,1,1");
        Told.dueHunks(0, "abcpdef", "abcrdef", "3,1,3,1,0,0");
        // An old part without lines, and a new one.
        Told.dueHunks(0, "ab", "axb", "1,0,1,1,0,0");
        Told.dueHunks(0, "axb", "ab", "1,1,1,0,0,0");
        Told.dueHunks(1, "abcdefgh", "xxabcdefgy", "0,1,0,3,0,1 6,2,8,2,1,0");
        Told.dueHunks(3, "ppapbpcpdpepfpgphijklmno", "abcdefghqiqjqkqlqmqnqoqq", "0,24,0,24,0,0");
    }

    // ---- applying

    private static void fuzzFromZeroToTwo() {
        Doc.says("Applying", "A patch is applied to a document t with a fuzz from 0 to 2, hunk by hunk.");
        MergeWorkbench none = Told.patching(3, FULL, FULL);
        Check.due("no hunk", none.apply(0, 2, false), 0);
        Check.due("no hunk to an empty document", none.apply(3, 0, true), 0);
        MergeWorkbench x = Told.patching(2, "abcde", "abxde");
        Told.dueApply(x, "abcde", 0, false, "0,0", "abxde");
        Told.dueApply(x, "qbcdq", 0, false, "-1,-1", "qbcdq");
        Told.dueApply(x, "qbcdq", 1, false, "1,1", "qbxdq");
        Told.dueApply(x, "qqcqq", 1, false, "-1,-1", "qqcqq");
        Told.dueApply(x, "qqcqq", 2, false, "2,2", "qqxqq");
        MergeWorkbench most = mostHunks();
        Check.due("the most hunks", most.apply(0, 0, false), 16);
        Check.due("the document", most.isSame(0, 1), true);
        Check.due("the most hunks, reversed", most.apply(1, 0, true), 16);
        Check.due("the document", Check.text(most, 1), "ppapbpcpdpepfpgphijklmno");
    }

    private static void reversedParts() {
        Doc.says("Applying", "For a reversed patch, the old and the new parts are exchanged.");
        MergeWorkbench x = Told.patching(0, "", FULL);
        Told.dueApply(x, FULL, 0, true, "0,0", "");
        Told.dueApply(x, "", 0, true, "-1,-1", "");
        Told.dueApply(x, "", 0, false, "0,0", FULL);
        MergeWorkbench y = Told.patching(1, "abc", "axyc");
        Told.dueApply(y, "axyc", 0, true, "0,0", "abc");
        Told.dueApply(y, "abc", 0, true, "-1,-1", "abc");
        Told.dueApply(y, "qxyq", 1, true, "1,1", "qbq");
    }

    private static void triedFuzz() {
        Doc.says("Applying", "A hunk is tried with the fuzz 0, 1, and so on up to the given one.");
        MergeWorkbench x = Told.patching(2, "abcde", "abxde");
        // Fuzz 0 at the farthest position comes before fuzz 1 at the expected one, and 1 before 2.
        Told.dueApply(x, "qbcdqzzzzzabcde", 2, false, "10,0", "qbcdqzzzzzabxde");
        Told.dueApply(x, "qbcdqzzzzzzabcde", 2, false, "1,1", "qbxdqzzzzzzabcde");
        Told.dueApply(x, "qqcqqqqqbcdq", 2, false, "8,1", "qqcqqqqqbxdq");
        Told.dueApply(x, "qqcqq", 2, false, "2,2", "qqxqq");
        Told.dueApply(x, "qqcqq", 1, false, "-1,-1", "qqcqq");
        Told.dueApply(x, "qqqqq", 2, false, "-1,-1", "qqqqq");
    }

    private static void linesLeftOut() {
        Doc.says("Applying", "With fuzz f, the first f lines of its leading context");
        MergeWorkbench three = Told.patching(3, "abcpdef", "abcrdef");
        Told.dueApply(three, "zbcpdez", 1, false, "1,1", "zbcrdez");
        Told.dueApply(three, "zzcpdzz", 2, false, "2,2", "zzcrdzz");
        Told.dueApply(three, "zzzpzzz", 2, false, "-1,-1", "zzzpzzz");
        // Of a leading context of one line, all; the trailing one is longer, and the other way round.
        MergeWorkbench first = Told.patching(2, "apbc", "arbc");
        Told.dueApply(first, "zpbz", 1, false, "1,1", "zrbz");
        Told.dueApply(first, "zpzz", 2, false, "1,2", "zrzz");
        Told.dueApply(first, "zpzz", 1, false, "-1,-1", "zpzz");
        MergeWorkbench last = Told.patching(2, "abpc", "abrc");
        Told.dueApply(last, "zbpz", 1, false, "1,1", "zbrz");
        Told.dueApply(last, "zzpz", 2, false, "2,2", "zzrz");
        Told.dueApply(last, "zzpz", 1, false, "-1,-1", "zzpz");
        // No context at all: fuzz leaves nothing out.
        MergeWorkbench none = Told.patching(0, "p", "r");
        Told.dueApply(none, "zp", 2, false, "1,0", "zr");
        Told.dueApply(none, "z", 2, false, "-1,-1", "z");
        // Context at the beginning or at the end alone.
        Told.dueApply(Told.patching(1, "pa", "ra"), "zpz", 1, false, "1,1", "zrz");
        Told.dueApply(Told.patching(1, "ap", "ar"), "zpz", 1, false, "1,1", "zrz");
    }

    private static void expectedPosition() {
        Doc.says("Applying", "The expected position is the position of the old part without the lines left out");
        Told.dueApply(Told.patching(0, "zzzzp", "zzzzr"), "ppppppppp", 0, false, "4,0", "pppprpppp");
        Told.dueApply(Told.patching(0, "p", "r"), "ppp", 0, false, "0,0", "rpp");
        MergeWorkbench x = Told.patching(2, "abpcd", "abrcd");
        Told.dueApply(x, "ppppp", 2, false, "2,2", "pprpp");
        MergeWorkbench last = Told.patching(0, FULL.substring(0, 23) + "z", FULL.substring(0, 23) + "y");
        Told.dueApply(last, "z9z9z6", 0, false, "23,0", "z".repeat(23) + "y");
        // Of the second hunk: plus the shift, and the first one has made t longer.
        Told.dueApply(Told.patching(0, "pabcq", "rrrrabcs"), "zpzzqqqz", 0, false, "1,0 5,0", "zrrrrzzqsqz");
    }

    private static void shift() {
        Doc.says("Applying", "The shift is 0 at first");
        MergeWorkbench x = Told.patching(0, "pabcdefghijklq", "rabcdefghijkls");
        Told.dueApply(x, "zzzzzpabcdefghijklq", 0, false, "5,0 18,0", "zzzzzrabcdefghijkls");
        // By +10, the most that it can be at once; then 10 more.
        MergeWorkbench far = Told.patching(0, "paq", "ras");
        Told.dueApply(far, "z9zpz9zzq", 0, false, "10,0 22,0", "z".repeat(10) + "r" + "z".repeat(11) + "s");
        // By a negative one.
        MergeWorkbench back = Told.patching(0, "zzzzzzzzzzpaaq", "zzzzzzzzzzraas");
        Told.dueApply(back, "pqqqqq", 0, false, "0,0 3,0", "rqqsqq");
        // A rejected hunk leaves it.
        Told.dueApply(x, "z9z3qzzzqq", 0, false, "-1,-1 12,0", "zzzzzzzzzzzzszzzqq");
        MergeWorkbench three = Told.patching(0, "paqbq", "rasbt");
        Told.dueApply(three, "zzpaabqqq", 0, false, "2,0 6,0 8,0", "zzraabsqt");
        MergeWorkbench between = Told.patching(0, "pavbq", "rawbs");
        Told.dueApply(between, "zzpqqqqqq", 0, false, "2,0 -1,-1 6,0", "zzrqqqsqq");
        // With fuzz, that of the part without the lines left out.
        Told.dueApply(Told.patching(1, "zpabcdq", "zrabcds"), "yypabcdqzdq", 1, false, "2,1 6,0", "yyrabcdszdq");
    }

    private static void distances() {
        Doc.says("Applying", "The positions at the distances 0, 1, -1, 2, -2, and so on to 10, -10");
        for (int near = 0; near <= 10; near++) {
            // With one p above and one below the expected 12: the nearer one, and of equally near ones the upper one.
            dueNearest(12 + near, 12 - near, 12 + near);
            dueNearest(12 + near, 12 - near - 1, 12 + near);
            if (near < 10) {
                dueNearest(12 + near + 1, 12 - near, 12 - near);
            }
        }
        dueNearest(23, 1, -1);
        dueNearest(23, 0, -1);
        dueNearest(23, 2, 2);
        dueNearest(22, 1, 22);
    }

    /** A document of 24 lines with a p at two positions. */
    private static void dueNearest(int upper, int lower, int due) {
        MergeWorkbench x = Told.patching(0, "zzzzzzzzzzzzp", "zzzzzzzzzzzzr");
        char[] target = "z".repeat(24).toCharArray();
        target[upper] = 'p';
        target[lower] = 'p';
        for (char line : target) {
            x.append(2, line - 'a');
        }
        Check.due("apply", x.apply(2, 0, false), due < 0 ? 0 : 1);
        Check.due("the position, of " + upper + " and " + lower, x.outcome(0, 0), due);
        if (due >= 0) {
            target[due] = 'r';
        }
        Check.due("the document", Check.text(x, 2), new String(target));
    }

    private static void endOfEarlierHunks() {
        Doc.says("Applying", "The positions at the distances 0, 1, -1, 2, -2, and so on to 10, -10");
        MergeWorkbench x = Told.patching(0, "pap", "ras");
        Told.dueApply(x, "pp", 0, false, "0,0 1,0", "rs");
        Told.dueApply(x, "p", 0, false, "0,0 -1,-1", "r");
        Told.dueApply(x, "zzzp", 0, false, "3,0 -1,-1", "zzzr");
        Told.dueApply(Told.patching(0, "paq", "ras"), "qzp", 0, false, "2,0 -1,-1", "qzr");
        // The lines of the old part have to exist up to the last one.
        MergeWorkbench two = Told.patching(0, "pq", "r");
        Told.dueApply(two, "zp", 0, false, "-1,-1", "zp");
        Told.dueApply(two, "zpq", 0, false, "1,0", "zr");
        // Context is replaced, too, but not that which fuzz left out.
        MergeWorkbench shared = Told.patching(1, "pabaq", "rabas");
        Told.dueApply(shared, "paq", 0, false, "0,0 -1,-1", "raq");
        Told.dueApply(shared, "paq", 1, false, "0,0 2,1", "ras");
        Told.dueApply(shared, "pq", 1, false, "0,1 1,1", "rs");
    }

    private static void oldPartWithoutLines() {
        Doc.says("Applying", "The positions at the distances 0, 1, -1, 2, -2, and so on to 10, -10");
        MergeWorkbench first = Told.patching(0, "", "z");
        Told.dueApply(first, "", 0, false, "0,0", "z");
        Told.dueApply(first, "a", 0, false, "0,0", "za");
        MergeWorkbench x = Told.patching(0, "abcdefghijklmno", "abcdefghijklmnoz");
        Told.dueApply(x, "abcdefghijklmnopq", 0, false, "15,0", "abcdefghijklmnozpq");
        Told.dueApply(x, "abcdefghijklmno", 0, false, "15,0", "abcdefghijklmnoz");
        Told.dueApply(x, "abcdefghijklmn", 0, false, "14,0", "abcdefghijklmnz");
        Told.dueApply(x, "abcde", 0, false, "5,0", "abcdez");
        Told.dueApply(x, "abcd", 0, false, "-1,-1", "abcd");
        Told.dueApply(x, "", 0, false, "-1,-1", "");
        // At the end of what an earlier hunk replaced, but not before it.
        MergeWorkbench two = Told.patching(0, "pabc", "rabcz");
        Told.dueApply(two, "p", 0, false, "0,0 1,0", "rz");
        Told.dueApply(two, "vvvvvp", 0, false, "5,0 6,0", "vvvvvrz");
        Told.dueApply(two, "pv", 0, false, "0,0 2,0", "rvz");
        MergeWorkbench both = Told.patching(0, "abc", "xabcy");
        Told.dueApply(both, "", 0, false, "0,0 0,0", "xy");
        Told.dueApply(both, "abc", 0, false, "0,0 3,0", "xabcy");
        Told.dueApply(both, "a", 0, false, "0,0 1,0", "xay");
        // Fuzz can leave an old part without lines.
        MergeWorkbench context = Told.patching(1, "ab", "azb");
        Told.dueApply(context, "qq", 0, false, "-1,-1", "qq");
        Told.dueApply(context, "qq", 1, false, "1,1", "qzq");
        Told.dueApply(context, "", 1, false, "0,1", "z");
    }

    private static void firstPosition() {
        Doc.says("Applying", "It is applied at the first position at which it fits:");
        MergeWorkbench x = Told.patching(0, "p", "rst");
        Told.dueApply(x, "ppp", 0, false, "0,0", "rstpp");
        Told.dueApply(x, "zpp", 0, false, "1,0", "zrstp");
        Told.dueApply(Told.patching(0, "pq", ""), "zpq", 0, false, "1,0", "z");
        Told.dueApply(Told.patching(0, "pq", ""), "pq", 0, false, "0,0", "");
        Told.dueApply(Told.patching(1, "abc", "axc"), "abc", 0, false, "0,0", "axc");
        Doc.says("Applying", "All positions are positions in t as it was before the patch was applied.");
        Told.dueApply(Told.patching(0, "pabq", "rrrrabs"), "pabq", 0, false, "0,0 3,0", "rrrrabs");
        Told.dueApply(Told.patching(0, "ppppabq", "abs"), "ppppabq", 0, false, "0,0 6,0", "abs");
        MergeWorkbench most = mostHunks();
        most.apply(0, 0, false);
        Check.due("outcomes of the most", Told.outcomes(most, 16), "0,0 3,0 5,0 7,0 9,0 11,0 13,0 15,0 "
                + "17,0 18,0 19,0 20,0 21,0 22,0 23,0 24,0");
    }

    private static void rejected() {
        Doc.says("Applying", "A hunk that does not fit anywhere with any fuzz is rejected.");
        MergeWorkbench x = Told.patching(0, "pabq", "rabs");
        Told.dueApply(x, "", 2, false, "-1,-1 -1,-1", "");
        Told.dueApply(x, "zzz", 2, false, "-1,-1 -1,-1", "zzz");
        Told.dueApply(x, "zabq", 2, false, "-1,-1 3,0", "zabs");
        Told.dueApply(x, "pabz", 2, false, "0,0 -1,-1", "rabz");
        MergeWorkbench y = Told.patching(0, FULL, "z");
        Told.dueApply(y, FULL, 0, false, "0,0", "z");
        Told.dueApply(y, FULL.substring(0, 23) + "z", 2, false, "-1,-1", FULL.substring(0, 23) + "z");
        Told.dueApply(y, FULL.substring(0, 23), 2, false, "-1,-1", FULL.substring(0, 23));
    }

    // ---- the methods

    private static void makePatch() {
        Doc.says(31, "Makes a patch from the comparison, in place of an earlier one.");
        MergeWorkbench x = Told.patching(1, "pabcq", "rabcs");
        Check.due("two hunks", Told.hunks(x, 2), "0,2,0,2,0,1 3,2,3,2,1,0");
        Check.due("one with context 2", x.makePatch(2), 1);
        Check.due("one hunk", Told.hunks(x, 1), "0,5,0,5,0,0");
        x.compare(0, 0);
        Check.due("the patch is kept", Told.hunks(x, 1), "0,5,0,5,0,0");
        Check.due("none", x.makePatch(0), 0);
        Check.dueThrows("no hunk", INDEX, () -> x.hunk(0, 0));
        Doc.says(31, "There are no outcomes afterwards.");
        MergeWorkbench y = applied();
        Check.due("an outcome", y.outcome(0, 0), 1);
        Check.due("the same patch again", y.makePatch(0), 2);
        Check.dueThrows("no outcome", ELEMENT, () -> y.outcome(0, 0));
        Check.dueThrows("no second outcome", ELEMENT, () -> y.outcome(1, 1));
        Doc.says(31, "- context: the number of context lines, 0 to 3");
        String[] due = {"4,1,4,1,0,0", "3,3,3,3,1,1", "2,5,2,5,2,2", "1,7,1,7,3,3"};
        for (int context = 0; context < 4; context++) {
            Told.dueHunks(context, "abcdpefgh", "abcdrefgh", due[context]);
        }
    }

    private static void makePatchRefused() {
        Doc.says(31, "Throws IllegalArgumentException if the context is out of range");
        for (int context : new int[] {-1, 4, LEAST, GREATEST}) {
            Check.dueRefused("makePatch(" + context + ")", ARGUMENT, PatchEdgeTest::applied,
                    y -> y.makePatch(context));
            Check.dueRefused("makePatch(" + context + ")", ARGUMENT, () -> Check.with("a"),
                    y -> y.makePatch(context));
        }
        Doc.says(31, "Throws IllegalStateException if there is no comparison");
        Check.dueRefused("makePatch(0)", STATE, State::full, y -> y.makePatch(0));
        Check.dueRefused("makePatch(3)", STATE, State::full, y -> y.makePatch(3));
    }

    private static void hunk() {
        Doc.says(32, "Returns a property of a hunk.");
        Check.due("of the last of the most", mostHunks().hunk(15, 3), 2);
        Doc.says(32, "- index: the hunk, from 0");
        MergeWorkbench x = Told.patching(2, "abcdefgpqhi", "abcdefgxyzhi");
        Check.due("the only hunk", x.hunk(0, 0), 5);
        Check.due("the second hunk", Told.patching(0, "paq", "ras").hunk(1, 0), 2);
        Doc.says(32, "- what: 0 and 1 for the position and the length of its old part");
        Check.due("all properties", Told.hunks(Told.patching(3, "abcdefghpqij", "xxabcdefghuvwij"), 2),
                "0,3,0,5,0,3 5,7,7,8,3,2");
        Doc.says(32, "Throws IllegalStateException if there is no patch");
        Check.dueRefused("hunk", STATE, State::full, y -> y.hunk(0, 0));
        State.Maker compared = () -> {
            MergeWorkbench y = Check.with("a", "b");
            y.compare(0, 1);
            return y;
        };
        Check.dueRefused("hunk of a comparison", STATE, compared, y -> y.hunk(0, 0));
        Doc.says(32, "Throws IndexOutOfBoundsException if there is no such hunk");
        for (int index : new int[] {-1, 2, LEAST, GREATEST}) {
            Check.dueRefused("hunk " + index, INDEX, PatchEdgeTest::applied, y -> y.hunk(index, 0));
        }
        Check.dueRefused("hunk 0 of none", INDEX, () -> Told.patching(0, FULL, FULL), y -> y.hunk(0, 0));
        Check.dueRefused("hunk 16 of 16", INDEX, PatchEdgeTest::mostHunks, y -> y.hunk(16, 0));
        Doc.says(32, "Throws IllegalArgumentException if what is out of range");
        for (int what : new int[] {-1, 6, 7, LEAST, GREATEST}) {
            Check.dueRefused("what " + what, ARGUMENT, PatchEdgeTest::applied, y -> y.hunk(0, what));
            Check.dueRefused("what " + what, ARGUMENT, PatchEdgeTest::applied, y -> y.hunk(1, what));
        }
    }

    private static void apply() {
        Doc.says(33, "Applies the patch to a document.");
        MergeWorkbench x = Told.patching(1, "abc", "axc");
        x.copy(0, 3);
        Check.due("apply to 0", x.apply(0, 0, false), 1);
        Check.due("apply to 3", x.apply(3, 0, false), 1);
        Check.due("apply to an empty document", x.apply(2, 0, false), 0);
        Check.due("the documents", State.documents(x), "axc,axc,,axc ");
        MergeWorkbench most = Told.patching(3, FULL, "z" + FULL.substring(1));
        Check.due("apply to a full document", most.apply(0, 0, false), 1);
        Check.due("the document", Check.text(most, 0), "z" + FULL.substring(1));
        Doc.says(33, "- fuzz: the fuzz, 0 to 2");
        MergeWorkbench y = Told.patching(2, "abpcd", "abrcd");
        Told.dueApply(y, "zbpcz", 0, false, "-1,-1", "zbpcz");
        Told.dueApply(y, "zbpcz", 1, false, "1,1", "zbrcz");
        Told.dueApply(y, "zzpzz", 1, false, "-1,-1", "zzpzz");
        Told.dueApply(y, "zzpzz", 2, false, "2,2", "zzrzz");
    }

    private static void applyRefused() {
        Doc.says(33, "Throws IllegalArgumentException if there is no such register, or the fuzz is out of range");
        for (int register : new int[] {-1, 4, LEAST, GREATEST}) {
            Check.dueRefused("apply to " + register, ARGUMENT, State::feeding, y -> y.apply(register, 0, false));
        }
        for (int fuzz : new int[] {-1, 3, LEAST, GREATEST}) {
            Check.dueRefused("fuzz " + fuzz, ARGUMENT, State::feeding, y -> y.apply(3, fuzz, false));
            Check.dueRefused("fuzz " + fuzz, ARGUMENT, State::feeding, y -> y.apply(0, fuzz, true));
        }
        Doc.says(33, "Throws IllegalStateException if there is no patch");
        Check.dueRefused("apply", STATE, State::full, y -> y.apply(0, 0, false));
        Check.dueRefused("apply, reversed", STATE, MergeWorkbench::new, y -> y.apply(3, 2, true));
        Doc.says(33, "Throws UnsupportedOperationException if the document would have more than 24 lines;");
        State.Maker one = () -> {
            MergeWorkbench y = Told.patching(0, "", "z");
            y.apply(2, 0, false);
            Check.read(y, 3, FULL);
            return y;
        };
        Check.dueRefused("apply to 24 lines", UNSUPPORTED, one, y -> y.apply(3, 0, false));
        Check.dueRefused("again", UNSUPPORTED, one, y -> y.apply(3, 2, false));
        MergeWorkbench x = one.make();
        x.delete(3, 0);
        Check.due("apply to 23 lines", x.apply(3, 0, false), 1);
        Check.due("24 lines", x.length(3), 24);
        State.Maker most = () -> {
            MergeWorkbench y = Told.patching(0, "", FULL);
            Check.read(y, 3, "a");
            return y;
        };
        Check.dueRefused("24 lines to one", UNSUPPORTED, most, y -> y.apply(3, 0, false));
        Check.due("24 lines to none", most.make().apply(2, 0, false), 1);
        // Too much in between is not too much in the end.
        MergeWorkbench between = Told.patching(0, "aqqqb", "zzab");
        Told.dueApply(between, "aqqqb9b9dd", 0, false, "0,0 1,0", "zzabbbbbbbbbbbbbbbbbbdd");
        MergeWorkbench longer = Told.patching(0, "ap", "za");
        Check.read(longer, 2, "az9z9z4p");
        Check.dueThrows("the second hunk would be rejected", UNSUPPORTED, () -> longer.apply(2, 0, false));
        Check.dueThrows("no outcome of it", ELEMENT, () -> longer.outcome(0, 0));
    }

    private static void outcome() {
        Doc.says(34, "Returns what became of a hunk in the latest call of apply");
        MergeWorkbench x = applied();
        Check.due("outcomes", Told.outcomes(x, 2), "1,0 -1,-1");
        Check.read(x, 2, "paq");
        x.compare(2, 2);
        x.undo();
        Check.due("outcomes stay", Told.outcomes(x, 2), "1,0 -1,-1");
        x.apply(0, 0, false);
        Check.due("outcomes of the latest", Told.outcomes(x, 2), "0,0 2,0");
        Check.dueThrows("a refused call", ARGUMENT, () -> x.apply(0, 3, false));
        Check.due("outcomes of the latest that was none", Told.outcomes(x, 2), "0,0 2,0");
        x.apply(3, 0, true);
        Check.due("outcomes to an empty document", Told.outcomes(x, 2), "-1,-1 -1,-1");
        Doc.says(34, "- index: the hunk, from 0");
        MergeWorkbench most = mostHunks();
        most.apply(0, 0, false);
        Check.due("the first of the most", most.outcome(0, 0), 0);
        Check.due("the last of the most", most.outcome(15, 0), 24);
        Doc.says(34, "- what: 0 for the position in the document at which it was applied");
        MergeWorkbench y = Told.patching(2, "abpcd", "abrcd");
        Told.dueApply(y, "zzzpz", 2, false, "3,2", "zzzrz");
        Told.dueApply(y, "zbpcz", 2, false, "1,1", "zbrcz");
        Told.dueApply(y, "abpcd", 2, false, "0,0", "abrcd");
        Told.dueApply(y, "z", 2, false, "-1,-1", "z");
    }

    private static void outcomeRefused() {
        Doc.says(34, "Throws NoSuchElementException if there was no such call, or there is no such hunk");
        Check.dueRefused("without patch", ELEMENT, State::full, y -> y.outcome(0, 0));
        Check.dueRefused("without apply", ELEMENT, () -> Told.patching(0, "a", "b"), y -> y.outcome(0, 0));
        for (int index : new int[] {-1, 2, LEAST, GREATEST}) {
            Check.dueRefused("outcome " + index, ELEMENT, PatchEdgeTest::applied, y -> y.outcome(index, 0));
        }
        MergeWorkbench none = Told.patching(0, FULL, FULL);
        none.apply(0, 0, false);
        Check.dueThrows("outcome of no hunk", ELEMENT, () -> none.outcome(0, 0));
        MergeWorkbench most = mostHunks();
        most.apply(0, 0, false);
        Check.dueThrows("outcome 16 of 16", ELEMENT, () -> most.outcome(16, 0));
        MergeWorkbench refused = Told.patching(0, "a", "b");
        Check.dueThrows("apply wrongly", ARGUMENT, () -> refused.apply(0, 3, false));
        Check.dueThrows("after a refused call alone", ELEMENT, () -> refused.outcome(0, 0));
        Doc.says(34, "Throws IllegalArgumentException if what is out of range");
        for (int what : new int[] {-1, 2, LEAST, GREATEST}) {
            Check.dueRefused("what " + what, ARGUMENT, PatchEdgeTest::applied, y -> y.outcome(0, what));
            Check.dueRefused("what " + what, ARGUMENT, PatchEdgeTest::applied, y -> y.outcome(1, what));
        }
    }
}
