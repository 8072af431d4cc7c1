/** Promises 35 to 37, at the boundaries that the document names: each sentence has a test of its own. */
public final class UndoEdgeTest {
    private static final Class<IllegalArgumentException> ARGUMENT = IllegalArgumentException.class;
    private static final Class<IllegalStateException> STATE = IllegalStateException.class;
    private static final String FULL = "abcdefghijklmnopqrstuvwx";

    public static void main(String[] args) {
        eachKindOfChange();
        changesWithoutDifference();
        noChanges();
        bounds();
        eightChanges();
        eightOfEachKind();
        undoneAndMade();
        undoRefused();
        save();
        restore();
        restoreForgetsChanges();
        restoreRefused();
        Doc.allTested(35, 37);
        Check.end();
    }

    /** A comparison of documents 0 and 1, a merge of 0, 1 and 2, and a patch, and no change that can be undone. */
    private static MergeWorkbench prepared(String... documents) {
        MergeWorkbench x = Check.with(documents);
        x.compare(0, 1);
        x.merge(0, 1, 2);
        x.makePatch(0);
        x.save();
        x.restore();
        return x;
    }

    private static void eachKindOfChange() {
        Doc.says(35, "Undoes the latest change of a register that has not been undone:");
        MergeWorkbench x = prepared("abc", "abd", "abc", "zz");
        x.append(3, 0);
        Told.dueUndo(x, 3, "zz");
        x.insert(3, 1, 0);
        Told.dueUndo(x, 3, "zz");
        x.delete(3, 0);
        Told.dueUndo(x, 3, "zz");
        x.copy(0, 3);
        Told.dueUndo(x, 3, "zz");
        Check.due("the register copied from", Check.text(x, 0), "abc");
        Check.read(x, 3, "q");
        Told.dueUndo(x, 3, "zz");
        x.accept(3);
        Told.dueUndo(x, 3, "zz");
        x.apply(0, 0, false);
        Check.due("applied", Check.text(x, 0), "abd");
        Told.dueUndo(x, 0, "abc");
        Check.dueThrows("nothing is left", STATE, x::undo);
        // From empty to full, and from full to empty.
        MergeWorkbench full = prepared(FULL, "", FULL, "");
        full.copy(0, 1);
        full.copy(3, 0);
        full.accept(2);
        Told.dueUndo(full, 2, FULL);
        Told.dueUndo(full, 0, FULL);
        Told.dueUndo(full, 1, "");
    }

    private static void changesWithoutDifference() {
        Doc.says(35, "Undoes the latest change of a register that has not been undone:");
        MergeWorkbench x = prepared("ab", "ab", "ab", "");
        x.copy(0, 0);
        x.copy(0, 1);
        Check.read(x, 2, "ab");
        Check.read(x, 3, "");
        x.accept(0);
        x.apply(1, 0, false);
        x.apply(3, 2, true);
        for (int register : new int[] {3, 1, 0, 3, 2, 1, 0}) {
            Check.due("undo", x.undo(), register);
            Check.due("documents", State.documents(x), "ab,ab,ab, ");
        }
        Check.dueThrows("nothing is left", STATE, x::undo);
        // A patch of which every hunk is rejected is applied all the same.
        MergeWorkbench y = prepared("ab", "ac", "", "zz");
        Check.due("no hunk", y.apply(3, 0, false), 0);
        Told.dueUndo(y, 3, "zz");
    }

    private static void noChanges() {
        Doc.says(35, "Undoes the latest change of a register that has not been undone:");
        MergeWorkbench x = Check.with("ab");
        Check.due("an input with an error", Check.read(x, 1, "a("), -102);
        Check.dueThrows("append", ARGUMENT, () -> x.append(1, 26));
        Check.dueThrows("insert", IndexOutOfBoundsException.class, () -> x.insert(1, 1, 0));
        Check.dueThrows("delete", IndexOutOfBoundsException.class, () -> x.delete(1, 0));
        Check.dueThrows("copy", ARGUMENT, () -> x.copy(1, 4));
        Check.dueThrows("accept", STATE, () -> x.accept(1));
        Check.dueThrows("apply", STATE, () -> x.apply(1, 0, false));
        Check.feed(x, "a9b9c9");
        Check.dueThrows("readDocument", STATE, () -> x.readDocument(1));
        x.setMode(1);
        x.setShrinking(false);
        x.compare(0, 1);
        x.merge(0, 1, 2);
        x.makePatch(0);
        x.save();
        x.feed('z');
        Told.dueUndo(x, 0, "");
        Check.dueThrows("nothing is left", STATE, x::undo);
        Check.due("the mode stays", x.setMode(0), 1);
        Check.due("shrinking stays", x.setShrinking(true), false);
        Check.due("the comparison stays", x.partner(1), -1);
        Check.due("the merge stays", x.chunks(), 1);
        Check.due("the patch stays", x.hunk(0, 1), 2);
        Check.due("the input stays", x.feed('z'), 2);
        Check.due("what was saved stays", x.restore(), 2);
    }

    private static void bounds() {
        Doc.says(35, "At most the 8 latest changes can be undone.");
        for (int changes = 1; changes <= 20; changes++) {
            MergeWorkbench x = new MergeWorkbench();
            for (int i = 0; i < changes; i++) {
                x.append(0, i);
            }
            int possible = Math.min(changes, 8);
            for (int i = 1; i <= possible; i++) {
                Check.due("undo of " + changes, x.undo(), 0);
                Check.due("lines of " + changes + " after " + i, x.length(0), changes - i);
            }
            Check.dueThrows("one more of " + changes, STATE, x::undo);
            Check.due("lines of " + changes + " in the end", x.length(0), changes - possible);
        }
    }

    private static void eightChanges() {
        Doc.says(35, "At most the 8 latest changes can be undone.");
        MergeWorkbench x = new MergeWorkbench();
        for (int line = 0; line < 9; line++) {
            x.append(line % 4, line);
        }
        for (int line = 8; line > 0; line--) {
            Check.due("undo of change " + line, x.undo(), line % 4);
        }
        Check.due("the one before the oldest stays", State.documents(x), "a,,, ");
        Check.dueThrows("it cannot be undone", STATE, x::undo);
        // Nine full documents, one after the other: the oldest change that can be undone leads back to the first.
        MergeWorkbench y = new MergeWorkbench();
        for (int i = 0; i < 9; i++) {
            Check.read(y, 0, "a9a9a5" + (char) ('a' + i));
        }
        for (int i = 7; i >= 0; i--) {
            Told.dueUndo(y, 0, "a".repeat(23) + (char) ('a' + i));
        }
        Check.dueThrows("the one before it", STATE, y::undo);
    }

    private static void eightOfEachKind() {
        Doc.says(35, "At most the 8 latest changes can be undone.");
        MergeWorkbench x = prepared("ab", "ac", "ab", "q");
        x.append(0, 25);
        x.append(3, 1);
        x.insert(3, 0, 2);
        x.delete(3, 1);
        x.copy(1, 3);
        Check.read(x, 3, "q");
        x.accept(3);
        x.apply(3, 0, true);
        x.copy(3, 3);
        String[] due = {"ab", "ac", "q", "ac", "cb", "cqb", "qb", "q"};
        for (String document : due) {
            Told.dueUndo(x, 3, document);
        }
        Check.dueThrows("the ninth", STATE, x::undo);
        Check.due("the first change stays", Check.text(x, 0), "abz");
    }

    private static void undoneAndMade() {
        Doc.says(35, "At most the 8 latest changes can be undone.");
        MergeWorkbench x = new MergeWorkbench();
        for (int line = 0; line < 12; line++) {
            x.append(0, line);
        }
        for (int i = 0; i < 8; i++) {
            x.undo();
        }
        Check.dueThrows("all eight are undone", STATE, x::undo);
        x.append(1, 25);
        x.append(0, 24);
        Told.dueUndo(x, 0, "abcd");
        Told.dueUndo(x, 1, "");
        Check.dueThrows("older ones stay", STATE, x::undo);
        for (int line = 0; line < 9; line++) {
            x.append(2, line);
        }
        for (int line = 8; line > 0; line--) {
            Check.due("undo", x.undo(), 2);
        }
        Check.dueThrows("eight again", STATE, x::undo);
        Check.due("documents", State.documents(x), "abcd,,a, ");
    }

    private static void undoRefused() {
        Doc.says(35, "Throws IllegalStateException if there is no change that can be undone");
        Check.dueRefused("undo at first", STATE, MergeWorkbench::new, MergeWorkbench::undo);
        State.Maker undone = () -> {
            MergeWorkbench x = State.worked();
            for (int i = 0; i < 6; i++) {
                x.undo();
            }
            return x;
        };
        Check.due("the last one", Check.text(undone.make(), 0), "");
        Check.dueRefused("undo of nothing", STATE, undone, MergeWorkbench::undo);
        Check.dueRefused("undo twice of nothing", STATE, undone, x -> {
            Check.dueThrows("undo", STATE, x::undo);
            return x.undo();
        });
        MergeWorkbench one = Check.with("a");
        one.undo();
        Check.dueThrows("undo", STATE, one::undo);
        one.append(0, 1);
        Check.due("undo of a later change", one.undo(), 0);
    }

    private static void save() {
        Doc.says(36, "Saves all documents and the mode, in place of what was saved before.");
        MergeWorkbench x = new MergeWorkbench();
        Check.due("save of nothing", x.save(), 0);
        x.append(0, 0);
        x.setMode(1);
        Check.due("restore of nothing", x.restore(), 0);
        Check.due("documents", State.documents(x), ",,, ");
        Check.due("the mode", x.setMode(1), 0);
        MergeWorkbench full = State.full();
        full.setMode(1);
        Check.due("save of full documents", full.save(), 96);
        String documents = State.documents(full);
        for (int register = 0; register < 4; register++) {
            Check.read(full, register, "");
        }
        full.setMode(0);
        Check.due("restore of full documents", full.restore(), 96);
        Check.due("documents", State.documents(full), documents);
        Check.due("the mode", full.setMode(0), 1);
        full.delete(3, 0);
        Check.due("save again", full.save(), 95);
        full.delete(3, 0);
        Check.due("restore the latest", full.restore(), 95);
        Check.due("the mode of the latest", full.setMode(1), 0);
    }

    private static void restore() {
        Doc.says(37, "Restores all documents and the mode that were saved last, which stay saved.");
        MergeWorkbench x = Check.with("ab", "cd", "", "f");
        x.setMode(1);
        x.setShrinking(false);
        x.compare(0, 1);
        x.save();
        for (int times = 0; times < 3; times++) {
            x.setMode(0);
            x.setShrinking(true);
            x.copy(1, 0);
            x.delete(1, 0);
            x.append(2, 25);
            x.delete(3, 0);
            x.feed('z');
            Check.due("restore", x.restore(), 5);
            Check.due("documents", State.documents(x), "ab,cd,,f ");
            Check.due("the mode", x.setMode(1), 1);
            Check.due("shrinking stays as it is", x.setShrinking(true), true);
        }
        Check.due("the comparison stays", x.differences(), 1);
        Check.due("the input stays", x.feed('z'), 4);
        Check.due("restore what is there", x.restore(), 5);
    }

    private static void restoreForgetsChanges() {
        Doc.says(37, "No change can be undone afterwards.");
        MergeWorkbench x = Check.with("ab", "cd");
        x.save();
        Check.due("saving is no change", x.undo(), 1);
        Check.due("a change", x.append(2, 0), 1);
        x.restore();
        Check.dueThrows("no change", STATE, x::undo);
        x.append(2, 7);
        Check.due("a later change", x.undo(), 2);
        Check.dueThrows("no earlier one", STATE, x::undo);
        for (int line = 0; line < 20; line++) {
            x.append(3, line);
        }
        x.restore();
        Check.dueThrows("none of twenty", STATE, x::undo);
        Check.due("documents", State.documents(x), "ab,cd,, ");
    }

    private static void restoreRefused() {
        Doc.says(37, "Throws IllegalStateException if nothing was saved");
        Check.dueRefused("restore at first", STATE, MergeWorkbench::new, MergeWorkbench::restore);
        Check.dueRefused("restore of full documents", STATE, State::full, MergeWorkbench::restore);
        MergeWorkbench x = Check.with("a");
        x.setMode(1);
        Check.dueThrows("restore", STATE, x::restore);
        Check.due("the mode stays", x.setMode(1), 1);
        Check.due("the change stays", x.undo(), 0);
        Check.due("save of nothing", x.save(), 0);
        Check.due("restore of nothing", x.restore(), 0);
    }
}
