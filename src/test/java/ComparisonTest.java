import java.util.NoSuchElementException;

/** Promises 12 to 21: the mode, the comparison, and its moves. */
public final class ComparisonTest {
    private static final Class<IllegalArgumentException> ARGUMENT = IllegalArgumentException.class;
    private static final Class<IllegalStateException> STATE = IllegalStateException.class;
    private static final Class<IndexOutOfBoundsException> INDEX = IndexOutOfBoundsException.class;
    private static final Class<NoSuchElementException> ELEMENT = NoSuchElementException.class;

    public static void main(String[] args) {
        setMode();
        compareAndPartner();
        anchors();
        comparisonIsKept();
        differences();
        steps();
        similarity();
        findMoves();
        moveOrder();
        Check.end();
    }

    private static void setMode() {
        MergeWorkbench x = new MergeWorkbench();
        Check.due("setMode(1)", x.setMode(1), 0);
        Check.due("setMode(1) again", x.setMode(1), 1);
        Check.dueThrows("setMode(2)", ARGUMENT, () -> x.setMode(2));
        Check.dueThrows("setMode(-1)", ARGUMENT, () -> x.setMode(-1));
        Check.due("setMode(0)", x.setMode(0), 1);
    }

    private static void dueAlignment(int mode, String a, String b, String partners) {
        MergeWorkbench x = Told.compared(mode, a, b);
        Check.due("partners of " + a + " in " + b + " by mode " + mode, Told.partners(x, x.length(0)), partners);
    }

    private static void compareAndPartner() {
        dueAlignment(0, "aabb", "abab", "0 2 3 -1");
        dueAlignment(0, "abc", "abc", "0 1 2");
        dueAlignment(0, "a", "aa", "0");
        dueAlignment(0, "aa", "a", "0 -1");
        dueAlignment(0, "ab", "ba", "1 -1");
        dueAlignment(0, "xay", "byaxb", "3 -1 -1");
        dueAlignment(0, "abcabba", "cbabac", "-1 1 -1 2 3 -1 4");
        dueAlignment(0, "ab", "xbxab", "3 4");
        dueAlignment(0, "(abcdefgh)3", "z9z9z5a", "23" + " -1".repeat(23));
        dueAlignment(0, "z9z9z5a", "(abcdefgh)3", "-1 ".repeat(23) + "0");
        // 24 lines each: b follows at once, though h would leave as many pairs.
        dueAlignment(0, "(abcdefgh)3", "(hgfedcba)2(abcdefgh)",
                "7 14" + " -1".repeat(6) + " 15" + " -1".repeat(7) + " 16 17 18 19 20 21 22 23");
        MergeWorkbench x = Check.with("abcd", "bxd", "", "z");
        Check.dueThrows("partner without comparison", STATE, () -> x.partner(9));
        Check.dueThrows("compare with 4", ARGUMENT, () -> x.compare(0, 4));
        Check.dueThrows("compare of -1", ARGUMENT, () -> x.compare(-1, 0));
        Check.dueThrows("still no comparison", STATE, () -> x.partner(0));
        Check.due("pairs", x.compare(0, 1), 2);
        Check.dueThrows("partner(4)", INDEX, () -> x.partner(4));
        Check.dueThrows("partner(-1)", INDEX, () -> x.partner(-1));
        Check.due("pairs of the other way", x.compare(1, 0), 2);
        Check.dueThrows("partner(3) of three lines", INDEX, () -> x.partner(3));
        Check.due("pairs with nothing", x.compare(0, 2), 0);
        Check.due("pairs of nothing", x.compare(2, 0), 0);
        Check.dueThrows("partner(0) of no line", INDEX, () -> x.partner(0));
        Check.due("pairs with itself", x.compare(0, 0), 4);
        Check.due("no pairs", x.compare(0, 3), 0);
    }

    private static void anchors() {
        // The only candidate is x; the plain alignment would rather keep aabb.
        dueAlignment(1, "xaabb", "aabbx", "4 -1 -1 -1 -1");
        dueAlignment(0, "xaabb", "aabbx", "-1 0 1 2 3");
        dueAlignment(1, "abc", "bca", "-1 0 1");
        // Two longest sequences: the one whose sequence of i comes first.
        dueAlignment(1, "ab", "ba", "1 -1");
        dueAlignment(1, "badc", "abcd", "1 -1 3 -1");
        dueAlignment(1, "cab", "abc", "-1 0 1");
        // Between the anchors x and y, the plain alignment of aabb and abab.
        dueAlignment(1, "xaabby", "xababy", "0 1 3 4 -1 5");
        // The same behind the last anchor, and before the first one.
        dueAlignment(1, "xaabb", "xabab", "0 1 3 4 -1");
        dueAlignment(1, "aabbx", "ababx", "0 2 3 -1 4");
        // a occurs twice in b, so it is no candidate; b is, and bounds the parts.
        dueAlignment(1, "ab", "aba", "0 1");
        MergeWorkbench x = Told.compared(1, "ab", "aba");
        Check.due("anchors of ab and aba", x.anchors(), 1);
        Check.due("anchors of xaabb and aabbx", Told.compared(1, "xaabb", "aabbx").anchors(), 1);
        Check.due("anchors without candidates", Told.compared(1, "aabb", "abab").anchors(), 0);
        Check.due("anchors by mode 0", Told.compared(0, "abc", "abc").anchors(), 0);
        Check.due("anchors of the same", Told.compared(1, "abc", "abc").anchors(), 3);
        x.setMode(0);
        Check.due("anchors are kept", x.anchors(), 1);
        x.compare(0, 1);
        Check.due("anchors of the new comparison", x.anchors(), 0);
        Check.dueThrows("anchors without comparison", STATE, () -> new MergeWorkbench().anchors());
    }

    private static void comparisonIsKept() {
        MergeWorkbench x = Told.compared(0, "abc", "acd");
        x.delete(0, 0);
        Check.read(x, 1, "zzzz");
        Check.due("partners afterwards", Told.partners(x, 3), "0 -1 1");
        Check.due("a step afterwards", x.step(3), 203);
        Check.dueThrows("the step behind the last one", ELEMENT, () -> x.step(4));
        Check.dueThrows("compare with -1", ARGUMENT, () -> x.compare(0, -1));
        Check.due("partners after an exception", Told.partners(x, 3), "0 -1 1");
    }

    private static void differences() {
        Check.due("differences", Told.differences(Told.compared(0, "abcdef", "abxdeyf")), "2,3,2,3 5,5,5,6");
        Check.due("differences at the ends", Told.differences(Told.compared(0, "xabc", "abcyz")), "0,1,0,0 4,4,3,5");
        Check.due("no differences", Told.differences(Told.compared(0, "abc", "abc")), "");
        Check.due("no differences of nothing", Told.differences(Told.compared(0, "", "")), "");
        Check.due("all different", Told.differences(Told.compared(0, "ab", "xyz")), "0,2,0,3");
        Check.due("all inserted", Told.differences(Told.compared(0, "", "xyz")), "0,0,0,3");
        Check.due("every other line", Told.differences(Told.compared(0, "a", "xay")), "0,0,0,1 1,1,2,3");
        MergeWorkbench x = Told.compared(0, "ab", "b");
        Check.dueThrows("difference(1, 0)", INDEX, () -> x.difference(1, 0));
        Check.dueThrows("difference(-1, 9)", INDEX, () -> x.difference(-1, 9));
        Check.dueThrows("difference(0, 4)", ARGUMENT, () -> x.difference(0, 4));
        Check.dueThrows("difference(0, -1)", ARGUMENT, () -> x.difference(0, -1));
        MergeWorkbench none = new MergeWorkbench();
        Check.dueThrows("differences without comparison", STATE, none::differences);
        Check.dueThrows("difference without comparison", STATE, () -> none.difference(-1, 9));
    }

    private static void steps() {
        MergeWorkbench x = Told.compared(0, "abcd", "axydz");
        int[] script = {0, 101, 102, 223, 224, 3, 225};
        for (int index = 0; index < script.length; index++) {
            Check.due("step " + index, x.step(index), script[index]);
        }
        Check.dueThrows("step(7)", ELEMENT, () -> x.step(7));
        Check.dueThrows("step(-1)", ELEMENT, () -> x.step(-1));
        Check.dueThrows("step of nothing", ELEMENT, () -> Told.compared(0, "", "").step(0));
        Check.dueThrows("step without comparison", STATE, () -> new MergeWorkbench().step(-1));
        x.compare(1, 1);
        Check.due("a step of the new comparison", x.step(1), 23);
        Check.dueThrows("step(5) of the new comparison", ELEMENT, () -> x.step(5));
        MergeWorkbench all = Told.compared(0, "(abcdefgh)3", "(ijklmnop)3");
        Check.due("the last of 48 steps", all.step(47), 215);
        Check.dueThrows("step(48)", ELEMENT, () -> all.step(48));
    }

    private static void similarity() {
        Check.due("similarity", Told.compared(0, "abcdef", "abxdeyf").similarity(), 10.0 / 13.0);
        Check.due("similarity of the same", Told.compared(0, "abc", "abc").similarity(), 1.0);
        Check.due("similarity of nothing common", Told.compared(0, "abc", "").similarity(), 0.0);
        MergeWorkbench nothing = Told.compared(0, "", "");
        Check.dueThrows("similarity of nothing", ArithmeticException.class, nothing::similarity);
        Check.dueThrows("similarity without comparison", STATE, () -> new MergeWorkbench().similarity());
    }

    private static void findMoves() {
        MergeWorkbench x = Told.compared(0, "abcdefgh", "defabcgh");
        Check.dueThrows("move before findMoves", INDEX, () -> x.move(0, 9));
        Check.due("findMoves(3)", x.findMoves(3), 1);
        Check.due("the move", Told.moves(x, 1), "3,0,3");
        Check.dueThrows("move(1, 0)", INDEX, () -> x.move(1, 0));
        Check.dueThrows("move(-1, 0)", INDEX, () -> x.move(-1, 0));
        Check.dueThrows("move(0, 3)", ARGUMENT, () -> x.move(0, 3));
        Check.dueThrows("move(0, -1)", ARGUMENT, () -> x.move(0, -1));
        Check.dueThrows("findMoves(0)", ARGUMENT, () -> x.findMoves(0));
        Check.dueThrows("findMoves(10)", ARGUMENT, () -> x.findMoves(10));
        Check.due("moves stay after an exception", Told.moves(x, 1), "3,0,3");
        Check.due("findMoves(4)", x.findMoves(4), 0);
        Check.dueThrows("moves found before are gone", INDEX, () -> x.move(0, 0));
        Check.due("findMoves(9)", x.findMoves(9), 0);
        Check.due("findMoves(1)", x.findMoves(1), 1);
        x.append(0, 1);
        Check.due("the move stays", Told.moves(x, 1), "3,0,3");
        Check.dueThrows("compare wrongly", ARGUMENT, () -> x.compare(4, 0));
        Check.due("the move stays after an exception", Told.moves(x, 1), "3,0,3");
        x.compare(0, 1);
        Check.dueThrows("no moves after compare", INDEX, () -> x.move(0, 0));
        MergeWorkbench none = new MergeWorkbench();
        Check.dueThrows("findMoves(1) without comparison", STATE, () -> none.findMoves(1));
        Check.dueThrows("findMoves(0) without comparison", ARGUMENT, () -> none.findMoves(0));
        Check.dueThrows("move without comparison", INDEX, () -> none.move(0, 9));
    }

    private static void dueMoves(String a, String b, int minimum, String due) {
        MergeWorkbench x = Told.compared(0, a, b);
        int count = x.findMoves(minimum);
        Check.due("moves from " + a + " to " + b, Told.moves(x, count), due);
    }

    private static void moveOrder() {
        // The longest first, until it is shorter than the minimum.
        dueMoves("pqrstuvwxyzabcdefg", "defgabcpqrstuvwxyz", 1, "14,0,4 11,4,3");
        dueMoves("pqrstuvwxyzabcdefg", "defgabcpqrstuvwxyz", 3, "14,0,4 11,4,3");
        dueMoves("pqrstuvwxyzabcdefg", "defgabcpqrstuvwxyz", 4, "14,0,4");
        // Of equally long ones, the lowest position in a, then in b.
        dueMoves("mnopqrabcd", "cdabmnopqr", 2, "6,2,2 8,0,2");
        dueMoves("mnopqra", "aamnopqr", 1, "6,0,1");
        // What one move has taken, in a or in b, is no part of the next.
        dueMoves("mnopqrabcbc", "abcmnopqr", 1, "6,0,3");
        dueMoves("mnopqrabcd", "bcdabcmnopqr", 1, "6,3,3 9,2,1");
        dueMoves("abmnop", "mnopab", 1, "0,4,2");
        // A kept line, of a or of b, is no part of a move.
        dueMoves("ab", "bab", 1, "");
        dueMoves("aab", "ab", 1, "");
        dueMoves("ab", "aab", 1, "");
        dueMoves("mnopabcd", "abxcdmnop", 1, "4,0,2 6,3,2");
    }
}
