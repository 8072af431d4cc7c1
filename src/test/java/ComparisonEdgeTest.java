import java.util.NoSuchElementException;

/** Promises 12 to 21, at the boundaries that the document names: each sentence has a test of its own. */
public final class ComparisonEdgeTest {
    private static final Class<IllegalArgumentException> ARGUMENT = IllegalArgumentException.class;
    private static final Class<IllegalStateException> STATE = IllegalStateException.class;
    private static final Class<IndexOutOfBoundsException> INDEX = IndexOutOfBoundsException.class;
    private static final Class<NoSuchElementException> ELEMENT = NoSuchElementException.class;
    private static final int LEAST = Integer.MIN_VALUE;
    private static final int GREATEST = Integer.MAX_VALUE;
    private static final String FULL = "abcdefghijklmnopqrstuvwx";
    private static final String BACK = "xwvutsrqponmlkjihgfedcba";

    public static void main(String[] args) {
        alignments();
        anchorRules();
        modeRules();
        comparisonRules();
        moveRules();
        setMode();
        compare();
        partner();
        anchors();
        differences();
        difference();
        step();
        similarity();
        findMoves();
        move();
        Doc.allTested(12, 21, "Alignments", "Anchors", "Mode", "Comparison", "Moves");
        Check.end();
    }

    /** The pairs as letters: for each line of a, the letter of its position in b, or a hyphen. */
    private static String partners(MergeWorkbench x, int lines) {
        StringBuilder all = new StringBuilder();
        for (int position = 0; position < lines; position++) {
            int partner = x.partner(position);
            all.append(partner < 0 ? '-' : (char) ('a' + partner));
        }
        return all.toString();
    }

    private static void duePairs(int mode, String a, String b, String partners) {
        MergeWorkbench x = Told.compared(mode, a, b);
        Check.due("pairs of " + a + " and " + b + " by mode " + mode, partners(x, x.length(0)), partners);
    }

    /** Nothing is left of a full comparison in a short one, or in one of nothing. */
    private static void fullThenShort(int mode) {
        MergeWorkbench x = Check.with("a9a9a6", "aba", "ba", "");
        x.setMode(mode);
        Check.due("pairs of full documents", x.compare(0, 0), 24);
        Check.due("pairs of short ones", x.compare(1, 2), 2);
        Check.due("differences of short ones", Told.differences(x), "0,1,0,0");
        Check.due("steps of short ones", x.step(0) + "," + x.step(1) + "," + x.step(2), "100,1,0");
        Check.dueThrows("no more steps", ELEMENT, () -> x.step(3));
        Check.due("pairs of full documents", x.compare(0, 0), 24);
        Check.due("pairs the other way", x.compare(2, 1), 2);
        Check.due("differences the other way", Told.differences(x), "0,0,0,1");
        Check.due("pairs of a short one and nothing", x.compare(1, 3), 0);
        Check.due("differences of a short one and nothing", Told.differences(x), "0,3,0,0");
        Check.due("pairs of nothing", x.compare(3, 3), 0);
        Check.due("no differences", x.differences(), 0);
        Check.dueThrows("no steps", ELEMENT, () -> x.step(0));
        MergeWorkbench y = Check.with("za3z5", "b3a3b3", "aba", "ba");
        y.setMode(mode);
        Check.due("pairs of longer documents", y.compare(0, 1), 3);
        Check.due("pairs of short ones", y.compare(2, 3), 2);
        Check.due("differences of short ones", Told.differences(y), "0,1,0,0");
    }

    /** Fifteen pairs, and something before, between and behind them: 16 differences, as many as there can be. */
    private static MergeWorkbench mostDifferences() {
        return Told.compared(0, "ppapbpcpdpepfpgphijklmno", "abcdefghqiqjqkqlqmqnqoqq");
    }

    private static void alignments() {
        Doc.says("Alignments", "An alignment of two documents a and b is a sequence of pairs");
        duePairs(0, "", "", "");
        duePairs(0, "", FULL, "");
        duePairs(0, FULL, "", "-".repeat(24));
        duePairs(0, FULL, FULL, FULL);
        duePairs(0, "az", "za", "b-");
        duePairs(0, "ab", "cd", "--");
        Doc.says("Alignments", "The plain alignment is the longest one;");
        // The longest one leaves out the first line; of equally long ones, i1 decides, then j1, then i2.
        duePairs(0, "xab", "abx", "-ab");
        duePairs(0, "ab", "ba", "b-");
        duePairs(0, "aa", "a", "a-");
        duePairs(0, "a", "aa", "a");
        duePairs(0, "aab", "acab", "acd");
        duePairs(0, "abab", "ab", "ab--");
        duePairs(0, "abcb", "adcb", "a-cd");
        duePairs(0, "abc", "acb", "ac-");
        duePairs(0, "bac", "acb", "-ab");
        duePairs(0, FULL, BACK, "x" + "-".repeat(23));
        duePairs(0, "a9a9a6", "a", "a" + "-".repeat(23));
        duePairs(0, "a", "b9b9b5a", "x");
        duePairs(0, "b9b9b5a", "a", "-".repeat(23) + "a");
        duePairs(0, "(ab)9(ab)3", "(ba)9(ba)3", "bcdefghijklmnopqrstuvwx-");
    }

    private static void anchorRules() {
        Doc.says("Anchors", "A candidate is a pair (i, j)");
        Check.due("once in both", Told.compared(1, "a", "a").anchors(), 1);
        Check.due("twice in a", Told.compared(1, "aa", "a").anchors(), 0);
        Check.due("twice in b", Told.compared(1, "a", "aa").anchors(), 0);
        Check.due("twice in both", Told.compared(1, "aa", "aa").anchors(), 0);
        Check.due("not in b", Told.compared(1, "a", "b").anchors(), 0);
        Check.due("first and last of 24", Told.compared(1, "b9b9b5a", "ac9c9c5").anchors(), 1);
        Check.due("twice, first and last", Told.compared(1, "ab9b9b4a", "a").anchors(), 0);
        Doc.says("Anchors", "The anchors are the longest sequence of candidates");
        duePairs(1, "cab", "abc", "-ab");
        duePairs(1, "ab", "ba", "b-");
        duePairs(1, "cabd", "dabc", "-bc-");
        duePairs(1, "badc", "abcd", "b-d-");
        duePairs(1, "cdab", "abcd", "cd--");
        // adb and cdb are as long; a, at a lower i, comes first. So does b before e and d.
        duePairs(1, "acdb", "cadb", "b-cd");
        duePairs(1, "abedc", "abcde", "abe--");
        duePairs(1, FULL, BACK, "x" + "-".repeat(23));
        Doc.says("Anchors", "The anchored alignment consists of the anchors");
        duePairs(1, "aabbxccdd", "ababxcdcd", "acd-efhi-");
        duePairs(1, "xaabby", "xababy", "abde-f");
        duePairs(1, "xaabb", "aabbx", "e----");
        duePairs(1, "aax", "xaa", "--a");
        duePairs(1, "aaxaa", "axa", "a-bc-");
        // b would be paired with the b behind x in b, but the parts end at x.
        duePairs(1, "bbx", "xbb", "--a");
        duePairs(1, "xabcabc", "abcabcx", "g------");
        duePairs(1, FULL, FULL, FULL);
        duePairs(1, "b9b9b5a", "ab9b9b5", "-".repeat(23) + "a");
        Doc.says("Anchors", "Without anchors, it is the plain alignment.");
        duePairs(1, "", "", "");
        duePairs(1, "aabb", "abab", "acd-");
        duePairs(1, "(abcdefgh)3", "(hgfedcba)2(abcdefgh)", "ho------p-------qrstuvwx");
        duePairs(1, "ab", "cd", "--");
    }

    private static void modeRules() {
        Doc.says("Mode", "The mode is 0 for plain and 1 for anchored alignments;");
        MergeWorkbench x = Check.with("xaabb", "aabbx");
        Check.due("pairs at first", x.compare(0, 1), 4);
        Check.due("the mode at first", x.setMode(1), 0);
        Check.due("pairs by mode 1", x.compare(0, 1), 1);
        Check.due("the mode then", x.setMode(0), 1);
        Check.due("pairs by mode 0", x.compare(0, 1), 4);
        Doc.says("Mode", "It is used by compare and merge.");
        x.merge(0, 1, 0);
        Check.due("end of the first stable part by mode 0", x.chunk(1, 2), 5);
        x.setMode(1);
        Check.due("the comparison is that of mode 0", x.partner(1), 0);
        Check.due("the merge is that of mode 0", x.chunk(1, 2), 5);
        Check.due("the distance uses no mode", x.distance(0, 1), 2);
        x.merge(0, 1, 0);
        Check.due("end of the first stable part by mode 1", x.chunk(1, 2), 1);
        x.compare(0, 1);
        Check.due("the comparison is that of mode 1", x.partner(1), -1);
    }

    private static void comparisonRules() {
        Doc.says("Comparison", "The comparison is kept from the latest call of compare");
        MergeWorkbench x = Told.compared(0, "abc", "acd");
        x.delete(0, 0);
        x.append(0, 3);
        Check.read(x, 1, "");
        Check.due("pairs afterwards", partners(x, 3), "a-b");
        Check.due("differences afterwards", Told.differences(x), "1,2,1,1 3,3,2,3");
        Check.due("the last step afterwards", x.step(3), 203);
        Check.due("similarity afterwards", x.similarity(), 4.0 / 6.0);
        x.compare(0, 1);
        Check.due("differences of the latest", Told.differences(x), "0,3,0,0");
        Check.due("the first step of the latest", x.step(0), 101);
        Check.dueThrows("the step behind its last one", ELEMENT, () -> x.step(3));
        fullThenShort(0);
        fullThenShort(1);
        Doc.says("Comparison", "A line is kept if it belongs to a pair of the alignment.");
        MergeWorkbench y = Told.compared(0, "aab", "ab");
        Check.due("pairs", partners(y, 3), "a-b");
        Check.due("a kept line", y.step(0), 0);
        Check.due("an equal line that is not kept", y.step(1), 100);
        Check.due("the last kept line", y.step(2), 1);
        Doc.says("Comparison", "A difference consists of a part of a and a part of b");
        Check.due("of nothing", Told.differences(Told.compared(0, "", "")), "");
        Check.due("all of a full a", Told.differences(Told.compared(0, FULL, "")), "0,24,0,0");
        Check.due("all of a full b", Told.differences(Told.compared(0, "", FULL)), "0,0,0,24");
        Check.due("all of both", Told.differences(Told.compared(0, FULL, "z9z9z6")), "0,24,0,24");
        Check.due("none", Told.differences(Told.compared(0, FULL, FULL)), "");
        Check.due("before the first pair", Told.differences(Told.compared(0, "xab", "ab")), "0,1,0,0");
        Check.due("behind the last pair", Told.differences(Told.compared(0, "ab", "abx")), "2,2,2,3");
        Check.due("between two pairs", Told.differences(Told.compared(0, "axb", "ayb")), "1,2,1,2");
        Check.due("no pair between", Told.differences(Told.compared(0, "abcd", "acd")), "1,2,1,1");
        Doc.says("Comparison", "The differences are numbered from 0 in their order.");
        Check.due("three", Told.differences(Told.compared(0, "xaybz", "apbq")), "0,1,0,0 2,3,1,2 4,5,3,4");
        MergeWorkbench most = mostDifferences();
        Check.due("the most", most.differences(), 16);
        Check.due("the first of the most", most.difference(0, 1), 2);
        Check.due("the last of the most", most.difference(15, 2), 22);
    }

    private static String moves(MergeWorkbench x, int minimum) {
        int count = x.findMoves(minimum);
        Check.dueThrows("the move behind the last one", INDEX, () -> x.move(count, 0));
        return Told.moves(x, count);
    }

    private static void dueMoves(String a, String b, int minimum, String due) {
        Check.due("moves from " + a + " to " + b + ", minimum " + minimum, moves(Told.compared(0, a, b), minimum), due);
    }

    private static void moveRules() {
        Doc.says("Moves", "A move is a part of a and a part of b of the same length");
        dueMoves("", "", 1, "");
        dueMoves(FULL, FULL, 1, "");
        dueMoves(FULL, "z9z9z6", 1, "");
        dueMoves("ab", "ba", 1, "1,0,1");
        dueMoves("a9b9c6", "c6b9a9", 1, "9,6,9 18,0,6");
        dueMoves("a9b9c6", "c6b9a9", 7, "9,6,9");
        dueMoves("abcxyzw", "xyzwabc", 1, "0,4,3");
        // The a that is not kept has no other a in b; the kept ones are no part of a move.
        dueMoves("aab", "ab", 1, "");
        dueMoves("ab", "aab", 1, "");
        Doc.says("Moves", "Moves are found one after the other");
        dueMoves("pqrstuvwxyzabcdefg", "defgabcpqrstuvwxyz", 1, "14,0,4 11,4,3");
        dueMoves("mnopqrabcd", "cdabmnopqr", 1, "6,2,2 8,0,2");
        dueMoves("mnopqra", "aamnopqr", 1, "6,0,1");
        dueMoves("amnopqra", "mnopqraa", 1, "0,7,1");
        dueMoves("mnopqrabcbc", "abcmnopqr", 1, "6,0,3");
        dueMoves("mnopqrabcd", "bcdabcmnopqr", 1, "6,3,3 9,2,1");
        StringBuilder each = new StringBuilder();
        for (int i = 1; i < 24; i++) {
            each.append(i).append(',').append(23 - i).append(",1 ");
        }
        dueMoves(FULL, BACK, 1, each.toString().trim());
        Doc.says("Moves", "This ends when the longest one is shorter than a given minimum.");
        dueMoves("pqrstuvwxyzabcdefg", "defgabcpqrstuvwxyz", 3, "14,0,4 11,4,3");
        dueMoves("pqrstuvwxyzabcdefg", "defgabcpqrstuvwxyz", 4, "14,0,4");
        dueMoves("pqrstuvwxyzabcdefg", "defgabcpqrstuvwxyz", 5, "");
        dueMoves(FULL, BACK, 2, "");
        dueMoves("abcdefghijklmnopqrst", "jklmnopqrstabcdefghi", 9, "0,11,9");
        dueMoves("abcdefghijklmnopqrs", "jklmnopqrsabcdefghi", 9, "0,10,9");
        dueMoves("abcdefghjklmnopqrs", "jklmnopqrsabcdefgh", 9, "");
        dueMoves("abcdefghjklmnopqrs", "jklmnopqrsabcdefgh", 8, "0,10,8");
        dueMoves(FULL, "mnopqrstuvwxabcdefghijkl", 9, "12,0,12");
    }

    private static void setMode() {
        Doc.says(12, "Sets the mode.");
        MergeWorkbench x = new MergeWorkbench();
        Check.due("setMode(0) at first", x.setMode(0), 0);
        Check.due("setMode(1)", x.setMode(1), 0);
        Check.due("setMode(1) again", x.setMode(1), 1);
        Doc.says(12, "- mode: 0 for plain, 1 for anchored");
        Check.due("plain", Told.compared(0, "xaabb", "aabbx").partner(1), 0);
        Check.due("anchored", Told.compared(1, "xaabb", "aabbx").partner(1), -1);
        Doc.says(12, "Throws IllegalArgumentException if the mode is out of range");
        for (int mode : new int[] {-1, 2, LEAST, GREATEST}) {
            Check.dueRefused("setMode(" + mode + ") from 0", ARGUMENT, MergeWorkbench::new, y -> y.setMode(mode));
            Check.dueRefused("setMode(" + mode + ") from 1", ARGUMENT, State::feeding, y -> y.setMode(mode));
        }
    }

    private static void compare() {
        Doc.says(13, "Compares two documents by their alignment in the present mode.");
        MergeWorkbench x = Check.with(FULL, "xaabb", "aabbx", "");
        Check.due("24 pairs", x.compare(0, 0), 24);
        Check.due("24 lines and none", x.compare(0, 3), 0);
        Check.due("no line and 24", x.compare(3, 0), 0);
        Check.due("no lines", x.compare(3, 3), 0);
        Check.due("by mode 0", x.compare(1, 2), 4);
        x.setMode(1);
        Check.due("by mode 1", x.compare(1, 2), 1);
        Check.due("24 pairs by mode 1", x.compare(0, 0), 24);
        Check.due("no lines by mode 1", x.compare(3, 3), 0);
        Doc.says(13, "The new comparison has no moves.");
        MergeWorkbench y = Told.compared(0, "ab", "ba");
        Check.due("a move", y.findMoves(1), 1);
        Check.due("compare again", y.compare(0, 1), 1);
        Check.dueThrows("no move", INDEX, () -> y.move(0, 0));
        Doc.says(13, "Throws IllegalArgumentException if one of the registers does not exist");
        for (int register : new int[] {-1, 4, LEAST, GREATEST}) {
            Check.dueRefused("compare " + register, ARGUMENT, State::feeding, z -> z.compare(register, 3));
            Check.dueRefused("compare with " + register, ARGUMENT, State::feeding, z -> z.compare(0, register));
            Check.dueRefused("first compare", ARGUMENT, MergeWorkbench::new, z -> z.compare(0, register));
        }
    }

    private static void partner() {
        Doc.says(14, "Returns the position in b to which a position in a belongs in the alignment.");
        MergeWorkbench same = Told.compared(0, FULL, FULL);
        Check.due("partner(0)", same.partner(0), 0);
        Check.due("partner(23)", same.partner(23), 23);
        Check.due("the last of the first", Told.compared(0, "a", "b9b9b5a").partner(0), 23);
        Check.due("the first of the last", Told.compared(0, "b9b9b5a", "a").partner(23), 0);
        Doc.says(14, "Returns the position in b, or -1 if the line is not kept.");
        Check.due("the first line", Told.compared(0, "ba", "a").partner(0), -1);
        Check.due("the last line", Told.compared(0, "ab", "a").partner(1), -1);
        Check.due("with nothing", Told.compared(0, FULL, "").partner(23), -1);
        Doc.says(14, "Throws IllegalStateException if there is no comparison");
        Check.dueRefused("partner", STATE, State::full, y -> y.partner(0));
        Doc.says(14, "Throws IndexOutOfBoundsException if there is no such position in a");
        for (int position : new int[] {-1, 2, 3, 24, LEAST, GREATEST}) {
            Check.dueRefused("partner(" + position + ") of two", INDEX, () -> Told.compared(0, "ab", "abc"),
                    y -> y.partner(position));
        }
        Check.dueRefused("partner of none", INDEX, () -> Told.compared(0, "", "abc"), y -> y.partner(0));
        Check.dueRefused("partner(24)", INDEX, () -> Told.compared(0, FULL, FULL), y -> y.partner(24));
        MergeWorkbench x = Told.compared(0, "abc", "abc");
        x.delete(0, 2);
        Check.due("a position that a had then", x.partner(2), 2);
        x.append(0, 0);
        x.append(0, 0);
        Check.dueThrows("a position that it had not", INDEX, () -> x.partner(3));
    }

    private static void anchors() {
        Doc.says(15, "Returns the number of anchors of the comparison.");
        Check.due("24 anchors", Told.compared(1, FULL, FULL).anchors(), 24);
        Check.due("one anchor", Told.compared(1, FULL, BACK).anchors(), 1);
        Check.due("no anchor of no lines", Told.compared(1, "", "").anchors(), 0);
        Check.due("only anchors count", Told.compared(1, "xaabby", "xababy").anchors(), 2);
        MergeWorkbench x = Told.compared(1, "ab", "ab");
        x.setMode(0);
        Check.due("the comparison is kept", x.anchors(), 2);
        Doc.says(15, "Returns the number of anchors, 0 for a plain alignment.");
        Check.due("a plain alignment", Told.compared(0, FULL, FULL).anchors(), 0);
        x.compare(0, 1);
        Check.due("a plain alignment behind an anchored one", x.anchors(), 0);
        Doc.says(15, "Throws IllegalStateException if there is no comparison");
        Check.dueRefused("anchors", STATE, State::full, MergeWorkbench::anchors);
    }

    private static void differences() {
        Doc.says(16, "Returns the number of differences.");
        Check.due("no line", Told.compared(0, "", "").differences(), 0);
        Check.due("no difference", Told.compared(0, FULL, FULL).differences(), 0);
        Check.due("one difference", Told.compared(0, FULL, "").differences(), 1);
        Check.due("as many as there can be", mostDifferences().differences(), 16);
        Doc.says(16, "Throws IllegalStateException if there is no comparison");
        Check.dueRefused("differences", STATE, State::full, MergeWorkbench::differences);
    }

    private static void difference() {
        Doc.says(17, "Returns a bound of a difference.");
        String due = "0,2,0,0 3,4,1,1 5,6,2,2 7,8,3,3 9,10,4,4 11,12,5,5 13,14,6,6 15,16,7,7 "
                + "17,17,8,9 18,18,10,11 19,19,12,13 20,20,14,15 21,21,16,17 22,22,18,19 23,23,20,21 24,24,22,24";
        Check.due("all bounds of the most", Told.differences(mostDifferences()), due);
        Doc.says(17, "- what: 0 for the begin of its part of a");
        MergeWorkbench x = Told.compared(0, "apb", "aqrb");
        Check.due("what 0", x.difference(0, 0), 1);
        Check.due("what 1", x.difference(0, 1), 2);
        Check.due("what 2", x.difference(0, 2), 1);
        Check.due("what 3", x.difference(0, 3), 3);
        Doc.says(17, "Throws IllegalStateException if there is no comparison");
        Check.dueRefused("difference", STATE, State::full, y -> y.difference(0, 0));
        Doc.says(17, "Throws IndexOutOfBoundsException if there is no such difference");
        for (int index : new int[] {-1, 3, LEAST, GREATEST}) {
            Check.dueRefused("difference " + index, INDEX, State::feeding, y -> y.difference(index, 0));
        }
        Check.dueRefused("of no differences", INDEX, () -> Told.compared(0, FULL, FULL), y -> y.difference(0, 0));
        Check.dueRefused("of 16", INDEX, ComparisonEdgeTest::mostDifferences, y -> y.difference(16, 0));
        Doc.says(17, "Throws IllegalArgumentException if what is out of range");
        for (int what : new int[] {-1, 4, LEAST, GREATEST}) {
            Check.dueRefused("what " + what, ARGUMENT, State::feeding, y -> y.difference(0, what));
            Check.dueRefused("what " + what, ARGUMENT, State::feeding, y -> y.difference(2, what));
        }
    }

    private static void dueSteps(String a, String b, int... due) {
        MergeWorkbench x = Told.compared(0, a, b);
        for (int index = 0; index < due.length; index++) {
            Check.due("step " + index + " from " + a + " to " + b, x.step(index), due[index]);
        }
        Check.dueThrows("the step behind the last one from " + a + " to " + b, ELEMENT, () -> x.step(due.length));
    }

    private static void step() {
        Doc.says(18, "Returns a step of the script that makes a to b.");
        dueSteps("", "");
        dueSteps("a", "a", 0);
        dueSteps("z", "", 125);
        dueSteps("", "z", 225);
        Doc.says(18, "It has a step for each line that is kept, deleted or inserted, in their order;");
        dueSteps("ab", "yz", 100, 101, 224, 225);
        dueSteps("xabz", "abyz", 123, 0, 1, 224, 25);
        dueSteps("apqbr", "asbtu", 0, 115, 116, 218, 1, 117, 219, 220);
        Doc.says(18, "Returns 100 times the kind, 0 if the line is kept");
        dueSteps("azc", "azd", 0, 25, 102, 203);
        dueSteps("z", "a", 125, 200);
        Doc.says(18, "- index: the index of the step, from 0");
        Check.due("the first step", Told.compared(0, FULL, BACK).step(0), 223);
        Check.due("the last step", Told.compared(0, FULL, BACK).step(46), 123);
        Doc.says(18, "Throws IllegalStateException if there is no comparison");
        Check.dueRefused("step", STATE, State::full, y -> y.step(0));
        Doc.says(18, "Throws NoSuchElementException if there is no such step");
        MergeWorkbench most = Told.compared(0, FULL, "z9z9z6");
        Check.due("the first of 48 steps", most.step(0), 100);
        Check.due("the last of 48 steps", most.step(47), 225);
        Check.due("the last of 24 steps", Told.compared(0, FULL, FULL).step(23), 23);
        for (int index : new int[] {-1, 48, LEAST, GREATEST}) {
            Check.dueRefused("step " + index, ELEMENT, () -> Told.compared(0, FULL, "z9z9z6"), y -> y.step(index));
        }
        Check.dueRefused("step 0 of none", ELEMENT, () -> Told.compared(0, "", ""), y -> y.step(0));
        Check.dueRefused("step 24 of 24", ELEMENT, () -> Told.compared(0, FULL, FULL), y -> y.step(24));
    }

    private static void similarity() {
        Doc.says(19, "Returns how similar both documents of the comparison are:");
        Check.due("the same", Told.compared(0, FULL, FULL).similarity(), 1.0);
        Check.due("one line", Told.compared(0, "a", "a").similarity(), 1.0);
        Check.due("nothing common", Told.compared(0, FULL, "z9z9z6").similarity(), 0.0);
        Check.due("only a has lines", Told.compared(0, "a", "").similarity(), 0.0);
        Check.due("only b has lines", Told.compared(0, "", "a").similarity(), 0.0);
        Check.due("two thirds", Told.compared(0, "a", "ab").similarity(), 2.0 / 3.0);
        Check.due("one pair of 48 lines", Told.compared(0, FULL, BACK).similarity(), 2.0 / 48.0);
        Doc.says(19, "Throws IllegalStateException if there is no comparison");
        Check.dueRefused("similarity", STATE, State::full, MergeWorkbench::similarity);
        Check.dueRefused("similarity", STATE, MergeWorkbench::new, MergeWorkbench::similarity);
        Doc.says(19, "Throws ArithmeticException if both documents are empty");
        Check.dueRefused("similarity", ArithmeticException.class, () -> Told.compared(0, "", ""),
                MergeWorkbench::similarity);
        Check.dueRefused("similarity", ArithmeticException.class, () -> Told.compared(1, "", ""),
                MergeWorkbench::similarity);
        MergeWorkbench x = Told.compared(0, "a", "");
        x.delete(0, 0);
        Check.due("a was not empty then", x.similarity(), 0.0);
        x.compare(0, 1);
        x.append(0, 0);
        Check.dueThrows("a was empty then", ArithmeticException.class, x::similarity);
    }

    private static void findMoves() {
        Doc.says(20, "Finds the moves of the comparison, in place of those found before.");
        MergeWorkbench x = Told.compared(0, "abxyz", "xyzab");
        Check.due("findMoves(2)", x.findMoves(2), 1);
        Check.due("findMoves(3)", x.findMoves(3), 0);
        Check.dueThrows("no move", INDEX, () -> x.move(0, 0));
        Check.due("findMoves(1)", x.findMoves(1), 1);
        Check.due("the move", x.move(0, 2), 2);
        x.findMoves(1);
        Check.dueThrows("no second move", INDEX, () -> x.move(1, 0));
        x.delete(0, 0);
        Check.due("with the lines of then", x.findMoves(1), 1);
        Doc.says(20, "- minimum: the minimum length, 1 to 9");
        Check.due("a move of 1 by 1", Told.compared(0, "ab", "ba").findMoves(1), 1);
        MergeWorkbench y = Told.compared(0, "abcdefghijklmnopqrst", "jklmnopqrstabcdefghi");
        Check.due("a move of 9 by 9", y.findMoves(9), 1);
        Check.due("its length", y.move(0, 2), 9);
        Check.due("a move of 8 by 9", Told.compared(0, "abcdefghjklmnopqrs", "jklmnopqrsabcdefgh").findMoves(9), 0);
        Doc.says(20, "Throws IllegalArgumentException if the minimum is out of range");
        for (int minimum : new int[] {-1, 0, 10, 24, LEAST, GREATEST}) {
            Check.dueRefused("findMoves(" + minimum + ")", ARGUMENT, State::feeding, z -> z.findMoves(minimum));
        }
        Doc.says(20, "Throws IllegalStateException if there is no comparison");
        Check.dueRefused("findMoves(1)", STATE, State::full, z -> z.findMoves(1));
        Check.dueRefused("findMoves(9)", STATE, State::full, z -> z.findMoves(9));
    }

    private static void move() {
        Doc.says(21, "Returns a property of a move.");
        MergeWorkbench x = Told.compared(0, FULL, BACK);
        Check.due("23 moves", x.findMoves(1), 23);
        Check.due("the first one", x.move(0, 0), 1);
        Check.due("the last one", x.move(22, 0), 23);
        Doc.says(21, "- what: 0 for its position in a, 1 for its position in b, 2 for its length");
        Check.due("position in a", x.move(4, 0), 5);
        Check.due("position in b", x.move(4, 1), 18);
        Check.due("length", x.move(4, 2), 1);
        Doc.says(21, "- index: the index of the move, from 0");
        Check.due("the first one found", moves(Told.compared(0, "mnopqrabcd", "cdabmnopqr"), 1), "6,2,2 8,0,2");
        Doc.says(21, "Throws IndexOutOfBoundsException if there is no such move");
        State.Maker one = () -> {
            MergeWorkbench y = Told.compared(0, "ab", "ba");
            y.findMoves(1);
            return y;
        };
        for (int index : new int[] {-1, 1, LEAST, GREATEST}) {
            Check.dueRefused("move " + index, INDEX, one, y -> y.move(index, 0));
        }
        Check.dueThrows("move 23 of 23", INDEX, () -> x.move(23, 0));
        Check.dueRefused("without findMoves", INDEX, () -> Told.compared(0, "ab", "ba"), y -> y.move(0, 0));
        Check.dueRefused("without comparison", INDEX, MergeWorkbench::new, y -> y.move(0, 0));
        Doc.says(21, "Throws IllegalArgumentException if what is out of range");
        for (int what : new int[] {-1, 3, LEAST, GREATEST}) {
            Check.dueRefused("what " + what, ARGUMENT, one, y -> y.move(0, what));
        }
    }
}
