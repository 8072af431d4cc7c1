/** Promises 35 to 37: undo, save and restore. */
public final class UndoTest {
    private static final Class<IllegalArgumentException> ARGUMENT = IllegalArgumentException.class;
    private static final Class<IllegalStateException> STATE = IllegalStateException.class;

    public static void main(String[] args) {
        undoEachChange();
        undoWithoutDifference();
        whatIsNoChange();
        undoAtMostEight();
        tenThreeAndOne();
        undoLeavesTheRest();
        save();
        restore();
        Check.end();
    }

    private static void undoEachChange() {
        MergeWorkbench x = new MergeWorkbench();
        x.append(0, 1);
        x.insert(0, 0, 0);
        x.delete(0, 1);
        x.copy(0, 1);
        Check.read(x, 2, "xyz");
        x.merge(0, 1, 2);
        x.accept(3);
        x.compare(1, 2);
        x.makePatch(0);
        x.apply(1, 0, false);
        Check.due("applied", Check.text(x, 1), "xyz");
        Told.dueUndo(x, 1, "a");
        Check.due("accepted", Check.text(x, 3), "xyz");
        Told.dueUndo(x, 3, "");
        Told.dueUndo(x, 2, "");
        Told.dueUndo(x, 1, "");
        Told.dueUndo(x, 0, "ab");
        Told.dueUndo(x, 0, "b");
        Told.dueUndo(x, 0, "");
        Check.dueThrows("undo too much", STATE, x::undo);
    }

    private static void undoWithoutDifference() {
        MergeWorkbench x = Check.with("ab");
        x.copy(0, 0);
        Check.read(x, 0, "ab");
        Check.read(x, 3, "");
        x.compare(0, 0);
        x.makePatch(0);
        x.apply(2, 0, false);
        x.merge(0, 0, 0);
        x.accept(0);
        int[] registers = {0, 2, 3, 0, 0, 0};
        for (int register : registers) {
            Check.due("undo", x.undo(), register);
        }
        Check.due("all undone", x.length(0), 0);
        Check.dueThrows("undo too much", STATE, x::undo);
    }

    private static void whatIsNoChange() {
        MergeWorkbench x = Check.with("ab");
        Check.due("an input with an error", Check.read(x, 1, "a("), -102);
        Check.dueThrows("append wrongly", ARGUMENT, () -> x.append(1, 26));
        Check.dueThrows("insert wrongly", IndexOutOfBoundsException.class, () -> x.insert(1, 1, 0));
        Check.dueThrows("delete wrongly", IndexOutOfBoundsException.class, () -> x.delete(1, 0));
        Check.dueThrows("copy wrongly", ARGUMENT, () -> x.copy(1, 4));
        Check.dueThrows("accept wrongly", STATE, () -> x.accept(1));
        Check.dueThrows("apply wrongly", STATE, () -> x.apply(1, 0, false));
        Check.feed(x, "a9b9c9");
        Check.dueThrows("read too much", STATE, () -> x.readDocument(1));
        x.setMode(1);
        x.save();
        Told.dueUndo(x, 0, "");
        Check.dueThrows("undo too much", STATE, x::undo);
        Check.due("undo keeps the mode", x.setMode(0), 1);
    }

    private static void undoAtMostEight() {
        MergeWorkbench x = new MergeWorkbench();
        for (int line = 0; line < 9; line++) {
            x.append(line % 2, line);
        }
        for (int line = 8; line > 0; line--) {
            Check.due("undo", x.undo(), line % 2);
        }
        Check.dueThrows("undo a ninth", STATE, x::undo);
        Check.due("the first change stays", Check.text(x, 0) + Check.text(x, 1), "a");
    }

    private static void tenThreeAndOne() {
        MergeWorkbench x = new MergeWorkbench();
        for (int line = 0; line < 10; line++) {
            x.append(0, line);
        }
        for (int i = 0; i < 3; i++) {
            x.undo();
        }
        x.append(0, 25);
        Check.due("a new change", Check.text(x, 0), "abcdefgz");
        for (int i = 0; i < 6; i++) {
            Check.due("undo", x.undo(), 0);
        }
        Check.dueThrows("undo a seventh", STATE, x::undo);
        Check.due("two are left", Check.text(x, 0), "ab");
        x.append(1, 1);
        Check.due("undo goes on", x.undo(), 1);
    }

    private static void undoLeavesTheRest() {
        MergeWorkbench x = Check.with("ab", "b");
        x.compare(0, 1);
        x.feed('q');
        x.undo();
        x.undo();
        Check.due("the comparison stays", x.partner(1), 0);
        Check.due("the input stays", x.feed('q'), 2);
    }

    private static void save() {
        MergeWorkbench x = new MergeWorkbench();
        Check.due("save nothing", x.save(), 0);
        Check.read(x, 0, "abc");
        Check.read(x, 3, "de");
        Check.due("save", x.save(), 5);
        x.append(1, 0);
        Check.due("restore what was saved last", x.restore(), 5);
        Check.due("restored", Check.text(x, 0) + "," + Check.text(x, 1) + "," + Check.text(x, 3), "abc,,de");
    }

    private static void restore() {
        MergeWorkbench x = Check.with("ab", "cd", "", "e");
        Check.dueThrows("restore without save", STATE, x::restore);
        Check.due("a change can still be undone", x.undo(), 3);
        Check.read(x, 3, "f");
        x.setMode(1);
        x.setShrinking(false);
        x.compare(0, 1);
        Check.due("save", x.save(), 5);
        Check.due("save changes nothing", x.undo(), 3);
        x.setMode(0);
        x.setShrinking(true);
        x.copy(1, 0);
        x.feed('z');
        Check.due("restore", x.restore(), 5);
        Check.due("restored", Check.text(x, 0) + "," + Check.text(x, 1) + "," + Check.text(x, 3), "ab,cd,f");
        Check.due("the mode is restored", x.setMode(0), 1);
        Check.due("shrinking is not", x.setShrinking(true), true);
        Check.due("the comparison stays", x.differences(), 1);
        Check.due("the input stays", x.feed('z'), 2);
        Check.dueThrows("no undo after restore", STATE, x::undo);
        x.append(2, 7);
        Check.due("undo a later change", x.undo(), 2);
        x.delete(0, 0);
        Check.due("restore again", x.restore(), 5);
        Check.due("restored again", Check.text(x, 0), "ab");
        x.delete(0, 0);
        Check.due("what is saved is its own", x.restore(), 5);
        Check.dueThrows("restore and undo", STATE, x::undo);
    }
}
