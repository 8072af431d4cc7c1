import java.util.NoSuchElementException;

/** What the document says of "Exceptions", and "In doubt": each sentence has a test of its own. */
public final class DoubtTest {
    private static final Class<IllegalArgumentException> ARGUMENT = IllegalArgumentException.class;
    private static final Class<IllegalStateException> STATE = IllegalStateException.class;
    private static final Class<IndexOutOfBoundsException> INDEX = IndexOutOfBoundsException.class;
    private static final Class<NoSuchElementException> ELEMENT = NoSuchElementException.class;
    private static final Class<UnsupportedOperationException> UNSUPPORTED = UnsupportedOperationException.class;

    public static void main(String[] args) {
        refusedDocuments();
        refusedComparison();
        refusedMerge();
        refusedPatch();
        orderDocuments();
        orderComparison();
        orderMerge();
        orderPatch();
        reversedPositions();
        fuzzyPositions();
        tenChanges();
        conflicts();
        emptyInput();
        expectedOutside();
        keptLines();
        Doc.allTested("Exceptions", "In doubt");
        Check.end();
    }

    // ---- exceptions

    private static void dueRefused(String call, Class<? extends RuntimeException> want, State.Use use) {
        Check.dueRefused(call, want, State::feeding, use);
    }

    private static void refusedDocuments() {
        Doc.says("Exceptions", "A method that throws an exception leaves the state unchanged");
        dueRefused("append", ARGUMENT, x -> x.append(0, 26));
        dueRefused("insert", INDEX, x -> x.insert(0, 25, 0));
        dueRefused("delete", INDEX, x -> x.delete(0, 24));
        dueRefused("length", ARGUMENT, x -> x.length(4));
        dueRefused("line", INDEX, x -> x.line(0, 24));
        dueRefused("copy", ARGUMENT, x -> x.copy(0, 4));
        dueRefused("isSame", ARGUMENT, x -> x.isSame(0, 4));
        dueRefused("distance", ARGUMENT, x -> x.distance(0, 4));
        State.Maker fed = () -> {
            MergeWorkbench x = State.settled();
            Check.feed(x, "?".repeat(50));
            return x;
        };
        Check.dueRefused("feed", STATE, fed, x -> x.feed('a'));
        // Its description says otherwise: the input is empty afterwards.
        Check.dueChanged("readDocument", ARGUMENT, State::feeding, x -> x.readDocument(4), State::settled);
        MergeWorkbench full = State.full();
        Check.dueThrows("append to a full document", STATE, () -> full.append(0, 0));
        Check.dueThrows("insert into a full document", STATE, () -> full.insert(0, 0, 0));
        Check.due("the last line", full.line(0, 23), 7);
        Check.due("the change before", full.undo(), 3);
    }

    private static void refusedComparison() {
        Doc.says("Exceptions", "A method that throws an exception leaves the state unchanged");
        dueRefused("setMode", ARGUMENT, x -> x.setMode(2));
        dueRefused("compare", ARGUMENT, x -> x.compare(0, 4));
        dueRefused("partner", INDEX, x -> x.partner(24));
        dueRefused("difference", INDEX, x -> x.difference(24, 0));
        dueRefused("step", ELEMENT, x -> x.step(48));
        dueRefused("findMoves", ARGUMENT, x -> x.findMoves(10));
        dueRefused("move", INDEX, x -> x.move(24, 0));
    }

    private static void refusedMerge() {
        Doc.says("Exceptions", "A method that throws an exception leaves the state unchanged");
        dueRefused("merge", ARGUMENT, x -> x.merge(0, 1, 4));
        dueRefused("chunk", INDEX, x -> x.chunk(24, 0));
        dueRefused("resolve", ARGUMENT, x -> x.resolve(0, 5));
        dueRefused("resolve", ELEMENT, x -> x.resolve(2, 0));
        dueRefused("merged", INDEX, x -> x.merged(80));
        dueRefused("accept", ARGUMENT, x -> x.accept(4));
        Check.dueRefused("accept", STATE, State::worked, x -> x.accept(0));
    }

    private static void refusedPatch() {
        Doc.says("Exceptions", "A method that throws an exception leaves the state unchanged");
        dueRefused("makePatch", ARGUMENT, x -> x.makePatch(4));
        dueRefused("hunk", INDEX, x -> x.hunk(24, 0));
        dueRefused("apply", ARGUMENT, x -> x.apply(0, 3, false));
        dueRefused("outcome", ELEMENT, x -> x.outcome(24, 0));
        State.Maker restored = () -> {
            MergeWorkbench x = State.feeding();
            x.restore();
            return x;
        };
        Check.dueRefused("undo", STATE, restored, MergeWorkbench::undo);
        Check.dueRefused("restore", STATE, State::full, MergeWorkbench::restore);
    }

    private static void orderDocuments() {
        Doc.says("Exceptions", "The exceptions of a method are checked in the order in which they are listed.");
        Check.dueThrows("append: register, line and room", ARGUMENT, () -> State.full().append(4, 26));
        Check.dueThrows("append: line and room", ARGUMENT, () -> State.full().append(0, 26));
        Check.dueThrows("append: room", STATE, () -> State.full().append(0, 25));
        Check.dueThrows("insert: line, room and position", ARGUMENT, () -> State.full().insert(0, 25, 26));
        Check.dueThrows("insert: line and position", ARGUMENT, () -> new MergeWorkbench().insert(0, 1, 26));
        Check.dueThrows("insert: register and position", ARGUMENT, () -> new MergeWorkbench().insert(4, 1, 0));
        Check.dueThrows("insert: room and position", STATE, () -> State.full().insert(0, 25, 0));
        Check.dueThrows("insert: room and position -1", STATE, () -> State.full().insert(0, -1, 0));
        Check.dueThrows("insert: position", INDEX, () -> new MergeWorkbench().insert(0, 1, 0));
        Check.dueThrows("delete: register and position", ARGUMENT, () -> new MergeWorkbench().delete(4, -1));
        Check.dueThrows("line: register and position", ARGUMENT, () -> new MergeWorkbench().line(4, -1));
        MergeWorkbench x = new MergeWorkbench();
        Check.feed(x, "a9b9c7");
        Check.dueThrows("readDocument: register and room", ARGUMENT, () -> x.readDocument(4));
        Check.feed(x, "?");
        Check.dueThrows("readDocument: register, and an error", ARGUMENT, () -> x.readDocument(4));
        Check.feed(x, "a9b9c7?");
        Check.due("readDocument: an error, and no room", x.readDocument(0), -106);
    }

    private static void orderComparison() {
        Doc.says("Exceptions", "The exceptions of a method are checked in the order in which they are listed.");
        MergeWorkbench x = new MergeWorkbench();
        Check.dueThrows("partner: comparison and position", STATE, () -> x.partner(-1));
        Check.dueThrows("difference: comparison, index and what", STATE, () -> x.difference(-1, 4));
        Check.dueThrows("step: comparison and index", STATE, () -> x.step(-1));
        Check.dueThrows("similarity: comparison and lines", STATE, x::similarity);
        Check.dueThrows("findMoves: minimum and comparison", ARGUMENT, () -> x.findMoves(0));
        Check.dueThrows("findMoves: comparison", STATE, () -> x.findMoves(1));
        Check.dueThrows("move: index and what", INDEX, () -> x.move(0, 3));
        x.compare(0, 1);
        Check.dueThrows("difference: index and what", INDEX, () -> x.difference(0, 4));
        Check.dueThrows("move: index and what", INDEX, () -> x.move(-1, -1));
        Check.dueThrows("similarity: lines", ArithmeticException.class, x::similarity);
    }

    private static void orderMerge() {
        Doc.says("Exceptions", "The exceptions of a method are checked in the order in which they are listed.");
        MergeWorkbench x = new MergeWorkbench();
        Check.dueThrows("chunk: merge, index and what", STATE, () -> x.chunk(-1, 7));
        Check.dueThrows("resolve: merge, conflict and choice", STATE, () -> x.resolve(-1, 5));
        Check.dueThrows("merged: merge and index", STATE, () -> x.merged(-1));
        Check.dueThrows("accept: register and merge", ARGUMENT, () -> x.accept(4));
        Check.dueThrows("accept: merge", STATE, () -> x.accept(0));
        x.merge(0, 1, 2);
        Check.dueThrows("chunk: index and what", INDEX, () -> x.chunk(0, 7));
        Check.dueThrows("resolve: conflict and choice", ELEMENT, () -> x.resolve(0, 5));
        MergeWorkbench y = Check.with("z9z9z6", "(abcdefgh)3", "y9y9y6");
        y.merge(0, 1, 2);
        Check.dueThrows("accept: register, conflict and lines", ARGUMENT, () -> y.accept(-1));
        Check.dueThrows("accept: conflict and lines", STATE, () -> y.accept(3));
        y.resolve(0, 2);
        Check.dueThrows("accept: register and lines", ARGUMENT, () -> y.accept(4));
        Check.dueThrows("accept: lines", UNSUPPORTED, () -> y.accept(3));
    }

    private static void orderPatch() {
        Doc.says("Exceptions", "The exceptions of a method are checked in the order in which they are listed.");
        MergeWorkbench x = new MergeWorkbench();
        Check.dueThrows("makePatch: context and comparison", ARGUMENT, () -> x.makePatch(4));
        Check.dueThrows("makePatch: comparison", STATE, () -> x.makePatch(3));
        Check.dueThrows("hunk: patch, index and what", STATE, () -> x.hunk(-1, 6));
        Check.dueThrows("apply: register and patch", ARGUMENT, () -> x.apply(4, 0, false));
        Check.dueThrows("apply: fuzz and patch", ARGUMENT, () -> x.apply(0, 3, false));
        Check.dueThrows("apply: patch", STATE, () -> x.apply(0, 2, false));
        Check.dueThrows("outcome: call and what", ELEMENT, () -> x.outcome(0, 2));
        x.compare(0, 1);
        x.makePatch(0);
        Check.dueThrows("hunk: index and what", INDEX, () -> x.hunk(0, 6));
        x.apply(0, 0, false);
        Check.dueThrows("outcome: hunk and what", ELEMENT, () -> x.outcome(0, 2));
        MergeWorkbench y = Check.with("", "z", "(abcdefgh)3");
        y.compare(0, 1);
        y.makePatch(0);
        Check.dueThrows("apply: register and lines", ARGUMENT, () -> y.apply(-1, 0, false));
        Check.dueThrows("apply: fuzz and lines", ARGUMENT, () -> y.apply(2, 3, false));
        Check.dueThrows("apply: lines", UNSUPPORTED, () -> y.apply(2, 0, false));
    }

    // ---- in doubt

    private static void reversedPositions() {
        Doc.says("In doubt", "For a reversed patch, positions are those of the second document.");
        // The v of the second document is at 11, the j of the first one at 9.
        MergeWorkbench x = Told.patching(0, "abcdefghijkl", "xxabcdefghivkl", "xxzzzzzvzvzvzz");
        Check.due("apply", x.apply(2, 0, true), 2);
        Check.due("position of the second hunk", x.outcome(1, 0), 11);
        Check.due("document", Check.text(x, 2), "zzzzzvzvzjzz");
        MergeWorkbench forward = Told.patching(0, "abcdefghijkl", "xxabcdefghivkl", "zzzzzzzjzjzjzz");
        forward.apply(2, 0, false);
        Check.due("position in the first document", forward.outcome(1, 0), 9);
        // With fuzz, too: what is left of the second hunk is at 7 in the second document, at 5 in the first one.
        MergeWorkbench fuzzy = Told.patching(1, "klmnapb", "kxxlmnayyqb", "zzzzyyqyyqzz");
        Check.due("apply with fuzz", fuzzy.apply(2, 1, true), 1);
        Check.due("outcomes with fuzz", Told.outcomes(fuzzy, 2), "-1,-1 7,1");
        Check.due("document with fuzz", Check.text(fuzzy, 2), "zzzzyyqpzz");
    }

    private static void fuzzyPositions() {
        Doc.says("In doubt", "The position of an outcome with fuzz is that of the old part without");
        MergeWorkbench x = Told.patching(3, "abcpdef", "abcrdef", "zzcpdzz");
        Check.due("apply with fuzz 2", x.apply(2, 2, false), 1);
        Check.due("position of c, not of a", x.outcome(0, 0), 2);
        Check.due("fuzz", x.outcome(0, 1), 2);
        MergeWorkbench first = Told.patching(1, "abc", "axc", "bbb");
        first.apply(2, 1, false);
        Check.due("position of b", first.outcome(0, 0), 1);
        MergeWorkbench second = Told.patching(1, "abc", "axc", "bz");
        second.apply(2, 2, false);
        Check.due("position of b at the begin", second.outcome(0, 0), 0);
    }

    private static void tenChanges() {
        Doc.says("In doubt", "After 10 changes of which 3 were undone, and a new one, 6 can be undone.");
        MergeWorkbench x = new MergeWorkbench();
        for (int line = 0; line < 10; line++) {
            x.append(0, line);
        }
        for (int i = 0; i < 3; i++) {
            Check.due("undo", x.undo(), 0);
        }
        x.append(1, 25);
        Check.due("undo 1", x.undo(), 1);
        for (int i = 2; i <= 6; i++) {
            Check.due("undo " + i, x.undo(), 0);
        }
        Check.dueThrows("undo 7", STATE, x::undo);
        Check.due("documents", State.documents(x), "ab,,, ");
    }

    private static void dueConflict(String base, String left, String right, int chunk, String bounds) {
        MergeWorkbench x = Check.with(base, left, right);
        String call = "merge of " + base + ", " + left + " and " + right;
        Check.due(call, x.merge(0, 1, 2), 1);
        Check.due("unresolved of " + call, x.unresolved(), 1);
        StringBuilder all = new StringBuilder();
        for (int what = 0; what < 7; what++) {
            all.append(x.chunk(chunk, what)).append(what < 6 ? " " : "");
        }
        Check.due("the conflict of " + call, all.toString(), bounds);
    }

    private static void conflicts() {
        Doc.says("In doubt", "A conflict of which a part is empty, or as the base part");
        // Without lines on the left, on the right, in the base.
        dueConflict("c", "x", "xy", 1, "4 0 1 1 1 1 2");
        dueConflict("c", "xy", "x", 1, "4 0 1 1 2 1 1");
        dueConflict("", "xa", "xb", 1, "4 0 0 1 2 1 2");
        dueConflict("c", "", "x", 0, "4 0 1 0 0 0 1");
        // The left part as the base part, then the right one: both without lines.
        dueConflict("", "xy", "xzy", 1, "4 0 0 1 1 1 2");
        dueConflict("", "xzy", "xy", 1, "4 0 0 1 2 1 1");
        // The same with lines: p of the base is in one of both alone, and so not stable.
        dueConflict("p", "xp", "xq", 1, "4 0 1 1 2 1 2");
        dueConflict("p", "xq", "xp", 1, "4 0 1 1 2 1 2");
        dueConflict("p", "px", "qx", 0, "4 0 1 0 1 0 1");
    }

    private static void emptyInput() {
        Doc.says("In doubt", "The empty input describes an empty document.");
        MergeWorkbench x = Check.with("ab");
        Check.due("read", x.readDocument(0), 0);
        Check.due("length", x.length(0), 0);
        Check.due("read again", x.readDocument(3), 0);
        Check.due("it is a change", x.undo(), 3);
        Check.due("it is a change", x.undo(), 0);
        Check.due("document", Check.text(x, 0), "ab");
    }

    private static void expectedOutside() {
        Doc.says("In doubt", "If the expected position is not in the document");
        // Expected at 12, and t ends before: the highest position comes first.
        MergeWorkbench x = Told.patching(0, "zzzzzzzzzzzzp", "zzzzzzzzzzzzr", "zzppz");
        Check.due("apply", x.apply(2, 0, false), 1);
        Check.due("the nearest", x.outcome(0, 0), 3);
        MergeWorkbench last = Told.patching(0, "zzzzzzzzzzzzp", "zzzzzzzzzzzzr", "ppp");
        Check.due("apply", last.apply(2, 0, false), 1);
        Check.due("distance -10", last.outcome(0, 0), 2);
        Check.due("distance -11", Told.patching(0, "zzzzzzzzzzzzp", "zzzzzzzzzzzzr", "pp").apply(2, 0, false), 0);
        MergeWorkbench none = Told.patching(0, "zzzzzzzzzz", "zzzzzzzzzzr", "");
        Check.due("without lines, distance -10", none.apply(2, 0, false), 1);
        Check.due("position", none.outcome(0, 0), 0);
        MergeWorkbench far = Told.patching(0, "zzzzzzzzzzz", "zzzzzzzzzzzr", "");
        Check.due("without lines, distance -11", far.apply(2, 0, false), 0);
        // Expected at the number of lines of t, which is no position of a line.
        MergeWorkbench behind = Told.patching(0, "zzp", "zzr", "pz");
        Check.due("apply", behind.apply(2, 0, false), 1);
        Check.due("position", behind.outcome(0, 0), 0);
    }

    private static void keptLines() {
        Doc.says("In doubt", "Comparisons, merges and patches keep the lines that they had");
        State.Maker before = () -> {
            MergeWorkbench x = State.settled();
            x.restore();
            return x;
        };
        State.Maker after = () -> {
            MergeWorkbench x = State.settled();
            for (int register = 0; register < 4; register++) {
                Check.read(x, register, "z9z9z6");
            }
            x.setMode(0);
            x.restore();
            return x;
        };
        Check.due("after all documents were changed", State.of(after), State.of(before));
        MergeWorkbench x = Told.patching(1, "abc", "axc", "abc");
        x.merge(0, 1, 2);
        for (int register : new int[] {0, 1}) {
            Check.read(x, register, "");
        }
        Check.due("a step", x.step(1), 101);
        Check.due("an element", x.merged(1), 23);
        Check.due("apply", x.apply(2, 0, false), 1);
        Check.due("document", Check.text(x, 2), "axc");
    }
}
