/** Promises 1 to 11, at the boundaries that the document names: each sentence has a test of its own. */
public final class DocumentEdgeTest {
    private static final Class<IllegalArgumentException> ARGUMENT = IllegalArgumentException.class;
    private static final Class<IllegalStateException> STATE = IllegalStateException.class;
    private static final Class<IndexOutOfBoundsException> INDEX = IndexOutOfBoundsException.class;
    private static final int[] NO_REGISTERS = {-1, 4, Integer.MIN_VALUE, Integer.MAX_VALUE};
    private static final int[] NO_LINES = {-1, 26, Integer.MIN_VALUE, Integer.MAX_VALUE};
    private static final String FULL = "abcdefghijklmnopqrstuvwx";

    public static void main(String[] args) {
        calls();
        documents();
        newObject();
        append();
        insert();
        delete();
        length();
        line();
        copy();
        isSame();
        distance();
        feed();
        readItems();
        readRepeats();
        readOpen();
        readErrors();
        readEmptiesInput();
        readRefused();
        Doc.allTested(1, 11, "What it is", "Documents");
        Check.end();
    }

    private static void calls() {
        Doc.says("What it is", "A workbench for comparing and merging short documents");
        MergeWorkbench shortest = new MergeWorkbench();
        Check.due("compare two empty documents", shortest.compare(0, 1), 0);
        Check.due("merge three empty documents", shortest.merge(0, 1, 2), 0);
        Check.due("patch of two empty documents", shortest.makePatch(0), 0);
        Doc.says("What it is", "An object is used for at most 512 calls");
        MergeWorkbench x = new MergeWorkbench();
        for (int call = 0; call < 510; call += 2) {
            Check.due("call " + call, x.append(call % 4, call % 26), 1);
            Check.due("call " + (call + 1), x.undo(), call % 4);
        }
        Check.due("call 510", x.append(3, 7), 1);
        Check.due("call 511", x.line(3, 0), 7);
    }

    private static void documents() {
        Doc.says("Documents", "There are 4 registers");
        MergeWorkbench x = Check.with("a", "bb", "ccc", "dddd");
        for (int register = 0; register < 4; register++) {
            Check.due("length of " + register, x.length(register), register + 1);
        }
        for (int register : NO_REGISTERS) {
            Check.dueThrows("length of " + register, ARGUMENT, () -> x.length(register));
        }
        Doc.says("Documents", "Each holds a document, which is a sequence of at most 24 lines and empty at first.");
        MergeWorkbench y = new MergeWorkbench();
        for (int register = 0; register < 4; register++) {
            int now = register;
            Check.due("length at first", y.length(register), 0);
            Check.due("24 lines", Check.read(y, register, FULL), 24);
            Check.dueThrows("a 25th line", STATE, () -> y.append(now, 0));
        }
        Doc.says("Documents", "A line is an integer from 0 to 25.");
        MergeWorkbench z = new MergeWorkbench();
        Check.due("append 0", z.append(0, 0), 1);
        Check.due("append 25", z.append(0, 25), 2);
        Check.due("line 0", z.line(0, 0), 0);
        Check.due("line 25", z.line(0, 1), 25);
        Doc.says("Documents", "The positions of the lines of a document are numbered from 0.");
        Check.read(z, 1, FULL);
        Check.due("the first position", z.line(1, 0), 0);
        Check.due("the last position", z.line(1, 23), 23);
        Doc.says("Documents", "A part [from, to) of a document");
        z.compare(0, 1);
        Check.due("begin of the part of a", z.difference(0, 0), 1);
        Check.due("end of the part of a", z.difference(0, 1), 2);
        Check.due("begin of the part of b", z.difference(0, 2), 1);
        Check.due("end of the part of b", z.difference(0, 3), 24);
        z.delete(0, 1);
        z.compare(0, 1);
        Check.due("begin of an empty part", z.difference(0, 0), 1);
        Check.due("end of an empty part", z.difference(0, 1), 1);
    }

    private static void newObject() {
        Doc.says(1, "Creates a workbench with empty documents, and without comparison, merge and patch.");
        State.worked();
        String due = ",,, partner:IllegalStateException anchors=IllegalStateException "
                + "similarity=IllegalStateException step:IllegalStateException differences=IllegalStateException "
                + "difference0=IllegalStateException move0=IndexOutOfBoundsException chunks=IllegalStateException "
                + "chunk0=IllegalStateException unresolved=IllegalStateException mergedLength=IllegalStateException "
                + "merged:IllegalStateException accept=IllegalStateException ,,, hunk0=IllegalStateException "
                + "outcome0=NoSuchElementException mode=0 shrinking=true read=0  feed=1 "
                + "undo=IllegalStateException ,,, mode=0 shrinking=true restore=IllegalStateException ,,, "
                + "mode=0 shrinking=true undo=IllegalStateException ";
        Check.due("a new object", State.of(MergeWorkbench::new), due);
        MergeWorkbench x = new MergeWorkbench();
        Check.dueThrows("findMoves", STATE, () -> x.findMoves(1));
        Check.dueThrows("makePatch", STATE, () -> x.makePatch(0));
        Check.dueThrows("apply", STATE, () -> x.apply(0, 0, false));
        Check.dueThrows("resolve", STATE, () -> x.resolve(0, 0));
        Check.dueThrows("difference", STATE, () -> x.difference(0, 0));
    }

    private static void append() {
        Doc.says(2, "Appends a line to a document.");
        MergeWorkbench x = new MergeWorkbench();
        for (int line = 0; line < 24; line++) {
            Check.due("append to " + line + " lines", x.append(3, line), line + 1);
        }
        Check.due("24 appended lines", Check.text(x, 3), FULL);
        Doc.says(2, "Throws IllegalArgumentException if there is no such register, or the line is out of range");
        for (int register : NO_REGISTERS) {
            Check.dueRefused("append to " + register, ARGUMENT, State::feeding, y -> y.append(register, 0));
        }
        for (int line : NO_LINES) {
            Check.dueRefused("append line " + line, ARGUMENT, State::feeding, y -> y.append(0, line));
        }
        Doc.says(2, "Throws IllegalStateException if the document has 24 lines");
        MergeWorkbench y = Check.with("", FULL.substring(1));
        Check.due("append to 23 lines", y.append(1, 25), 24);
        for (int register = 0; register < 4; register++) {
            int now = register;
            Check.dueRefused("append to 24 lines", STATE, State::full, z -> z.append(now, 25));
        }
    }

    private static void insert() {
        Doc.says(3, "Inserts a line into a document.");
        MergeWorkbench empty = new MergeWorkbench();
        Check.due("insert into an empty document", empty.insert(2, 0, 25), 1);
        Check.due("inserted", Check.text(empty, 2), "z");
        MergeWorkbench most = Check.with(FULL.substring(1));
        Check.due("insert before 23 lines", most.insert(0, 0, 0), 24);
        Check.due("inserted", Check.text(most, 0), FULL);
        Doc.says(3, "- position: the position of the line afterwards, 0 to the number of lines");
        MergeWorkbench x = Check.with("bcd");
        Check.due("insert at 0", x.insert(0, 0, 0), 4);
        Check.due("insert at the number of lines", x.insert(0, 4, 4), 5);
        Check.due("insert at the last position", x.insert(0, 4, 25), 6);
        Check.due("inserted", Check.text(x, 0), "abcdze");
        MergeWorkbench last = Check.with(FULL.substring(0, 23));
        Check.due("insert behind 23 lines", last.insert(0, 23, 23), 24);
        Check.due("inserted", Check.text(last, 0), FULL);
        Doc.says(3, "Throws IllegalArgumentException if there is no such register, or the line is out of range");
        for (int register : NO_REGISTERS) {
            Check.dueRefused("insert into " + register, ARGUMENT, State::feeding, y -> y.insert(register, 0, 0));
        }
        for (int line : NO_LINES) {
            Check.dueRefused("insert line " + line, ARGUMENT, State::feeding, y -> y.insert(0, 0, line));
        }
        Check.due("insert line 0", x.insert(1, 0, 0), 1);
        Check.due("insert line 25", x.insert(1, 0, 25), 2);
        Doc.says(3, "Throws IllegalStateException if the document has 24 lines");
        for (int position : new int[] {0, 23, 24}) {
            Check.dueRefused("insert at " + position, STATE, State::full, y -> y.insert(1, position, 0));
        }
        Doc.says(3, "Throws IndexOutOfBoundsException if position is out of range");
        State.Maker two = () -> Check.with("bc");
        for (int position : new int[] {-1, 3, 24, Integer.MIN_VALUE, Integer.MAX_VALUE}) {
            Check.dueRefused("insert at " + position, INDEX, two, y -> y.insert(0, position, 0));
        }
        Check.dueRefused("insert at 1 into nothing", INDEX, two, y -> y.insert(1, 1, 0));
        Check.dueRefused("insert at -1 into nothing", INDEX, two, y -> y.insert(1, -1, 0));
        Check.dueRefused("insert at 24 of 23 lines", INDEX, () -> Check.with("z9z9z5"), y -> y.insert(0, 24, 0));
    }

    private static void delete() {
        Doc.says(4, "Deletes a line of a document.");
        MergeWorkbench x = Check.with(FULL);
        Check.due("delete the last of 24", x.delete(0, 23), 23);
        Check.due("delete the first of 23", x.delete(0, 0), 0);
        Check.due("deleted", Check.text(x, 0), FULL.substring(1, 23));
        MergeWorkbench one = Check.with("z");
        Check.due("delete the only line", one.delete(0, 0), 25);
        Check.due("deleted", one.length(0), 0);
        Doc.says(4, "Throws IllegalArgumentException if there is no such register");
        for (int register : NO_REGISTERS) {
            Check.dueRefused("delete from " + register, ARGUMENT, State::feeding, y -> y.delete(register, 0));
        }
        Doc.says(4, "Throws IndexOutOfBoundsException if there is no such position");
        State.Maker two = () -> Check.with("bc");
        for (int position : new int[] {-1, 2, 23, 24, Integer.MIN_VALUE, Integer.MAX_VALUE}) {
            Check.dueRefused("delete at " + position, INDEX, two, y -> y.delete(0, position));
        }
        Check.dueRefused("delete of nothing", INDEX, two, y -> y.delete(1, 0));
        Check.dueRefused("delete at 24 of 24 lines", INDEX, State::full, y -> y.delete(3, 24));
    }

    private static void length() {
        Doc.says(5, "Returns the number of lines of a document.");
        MergeWorkbench x = Check.with(FULL, "a", "");
        Check.due("length of 24 lines", x.length(0), 24);
        Check.due("length of one line", x.length(1), 1);
        Check.due("length of no line", x.length(2), 0);
        Doc.says(5, "Throws IllegalArgumentException if there is no such register");
        for (int register : NO_REGISTERS) {
            Check.dueRefused("length of " + register, ARGUMENT, State::feeding, y -> y.length(register));
        }
    }

    private static void line() {
        Doc.says(6, "Returns a line of a document.");
        MergeWorkbench x = Check.with(FULL, "", "", "z");
        Check.due("line at 0", x.line(0, 0), 0);
        Check.due("line at 23", x.line(0, 23), 23);
        Check.due("the only line", x.line(3, 0), 25);
        Doc.says(6, "Throws IllegalArgumentException if there is no such register");
        for (int register : NO_REGISTERS) {
            Check.dueRefused("line of " + register, ARGUMENT, State::feeding, y -> y.line(register, 0));
        }
        Doc.says(6, "Throws IndexOutOfBoundsException if there is no such position");
        State.Maker two = () -> Check.with("bc");
        for (int position : new int[] {-1, 2, 23, 24, Integer.MIN_VALUE, Integer.MAX_VALUE}) {
            Check.dueRefused("line at " + position, INDEX, two, y -> y.line(0, position));
        }
        Check.dueRefused("line of nothing", INDEX, two, y -> y.line(1, 0));
        Check.dueRefused("line at 24 of 24 lines", INDEX, State::full, y -> y.line(3, 24));
        MergeWorkbench shorter = Check.with("abc");
        shorter.delete(0, 2);
        Check.dueThrows("line that was deleted", INDEX, () -> shorter.line(0, 2));
    }

    private static void copy() {
        Doc.says(7, "Makes a document the same as another one.");
        MergeWorkbench x = Check.with(FULL, "", "ab", "z9z9z6");
        Check.due("copy a full document to an empty one", x.copy(0, 1), 24);
        Check.due("copied", Check.text(x, 1), FULL);
        Check.due("copy a full document to a full one", x.copy(3, 0), 24);
        Check.due("copied", Check.text(x, 0), "z".repeat(24));
        Check.due("copy to itself", x.copy(2, 2), 2);
        Check.due("copied", Check.text(x, 2), "ab");
        MergeWorkbench y = Check.with("", FULL);
        Check.due("copy an empty document to a full one", y.copy(0, 1), 0);
        Check.due("copied", y.length(1), 0);
        Check.due("copy an empty document to an empty one", y.copy(2, 3), 0);
        Doc.says(7, "Throws IllegalArgumentException if one of the registers does not exist");
        for (int register : NO_REGISTERS) {
            Check.dueRefused("copy from " + register, ARGUMENT, State::feeding, z -> z.copy(register, 3));
            Check.dueRefused("copy to " + register, ARGUMENT, State::feeding, z -> z.copy(0, register));
            Check.dueRefused("copy both " + register, ARGUMENT, State::feeding, z -> z.copy(register, register));
        }
    }

    private static void isSame() {
        Doc.says(8, "Returns whether two documents have the same lines.");
        MergeWorkbench x = Check.with(FULL, FULL, FULL.substring(0, 23) + "z", "");
        Check.due("two full ones", x.isSame(0, 1), true);
        Check.due("the last of 24 lines differs", x.isSame(0, 2), false);
        Check.due("full and empty", x.isSame(0, 3), false);
        Check.due("empty and full", x.isSame(3, 0), false);
        Check.due("itself", x.isSame(3, 3), true);
        x.delete(2, 23);
        Check.due("one line less", x.isSame(0, 2), false);
        Check.due("one line more", x.isSame(2, 0), false);
        MergeWorkbench first = Check.with("ab", "cb", "", "");
        Check.due("the first line differs", first.isSame(0, 1), false);
        Check.due("two empty ones", first.isSame(2, 3), true);
        Doc.says(8, "Throws IllegalArgumentException if one of the registers does not exist");
        for (int register : NO_REGISTERS) {
            Check.dueRefused("isSame of " + register, ARGUMENT, State::feeding, y -> y.isSame(register, 3));
            Check.dueRefused("isSame with " + register, ARGUMENT, State::feeding, y -> y.isSame(0, register));
            Check.dueRefused("isSame both " + register, ARGUMENT, State::feeding, y -> y.isSame(register, register));
        }
    }

    private static void distance() {
        Doc.says(9, "Returns the least number of single lines");
        MergeWorkbench x = Check.with(FULL, "z9z9z6", "", "");
        Check.due("nothing to nothing", x.distance(2, 3), 0);
        Check.due("nothing to 24 lines", x.distance(2, 0), 24);
        Check.due("24 lines to nothing", x.distance(0, 2), 24);
        Check.due("24 lines to 24 others", x.distance(0, 1), 48);
        Check.due("24 lines to themselves", x.distance(0, 0), 0);
        x.copy(0, 2);
        x.delete(2, 23);
        Check.due("without the last line", x.distance(0, 2), 1);
        x.insert(2, 0, 23);
        Check.due("the last line moved to the front", x.distance(0, 2), 2);
        MergeWorkbench shorter = Check.with("a9a9a6", "aba", "ba");
        Check.due("24 equal lines", shorter.distance(0, 0), 0);
        Check.due("three lines and two afterwards", shorter.distance(1, 2), 1);
        Check.due("24 equal lines", shorter.distance(0, 0), 0);
        Check.due("two lines and three afterwards", shorter.distance(2, 1), 1);
        Check.due("three lines and none afterwards", shorter.distance(1, 3), 3);
        Doc.says(9, "Throws IllegalArgumentException if one of the registers does not exist");
        for (int register : NO_REGISTERS) {
            Check.dueRefused("distance of " + register, ARGUMENT, State::feeding, y -> y.distance(register, 3));
            Check.dueRefused("distance to " + register, ARGUMENT, State::feeding, y -> y.distance(0, register));
            Check.dueRefused("distance of both", ARGUMENT, State::feeding, y -> y.distance(register, register));
        }
    }

    private static MergeWorkbench fed(int times) {
        MergeWorkbench x = Check.with("pq");
        Check.feed(x, "?".repeat(times));
        return x;
    }

    private static void feed() {
        Doc.says(10, "Appends a character to the input.");
        for (char character : new char[] {0, 'a', 'z', '(', ')', '9', ' ', 127, 128, 255, 256, 65535}) {
            MergeWorkbench x = new MergeWorkbench();
            Check.due("feed " + (int) character, x.feed(character), 1);
            Check.due("feed " + (int) character + " again", x.feed(character), 2);
        }
        MergeWorkbench most = new MergeWorkbench();
        for (int length = 1; length <= 50; length++) {
            Check.due("feed", most.feed('a'), length);
        }
        Doc.says(10, "Throws IllegalStateException if the input has 50 characters");
        Check.due("feed to 49 characters", fed(49).feed('a'), 50);
        Check.dueRefused("feed to 50 characters", STATE, () -> fed(50), y -> y.feed('a'));
        MergeWorkbench x = fed(50);
        Check.dueThrows("feed to 50 characters", STATE, () -> x.feed('a'));
        Check.dueThrows("feed once more", STATE, () -> x.feed('?'));
        Check.due("read 50 characters", x.readDocument(0), -100);
        Check.due("feed after it", x.feed('a'), 1);
    }

    private static void readItems() {
        Doc.says(11, "Reads the input as a document, and puts it into a register.");
        MergeWorkbench x = Check.with("a", "b", "c", "d");
        Check.due("read into 0", Check.read(x, 0, "pq"), 2);
        Check.due("read into 3", Check.read(x, 3, FULL), 24);
        Check.due("the documents", State.documents(x), "pq,b,c," + FULL + " ");
        Check.due("read into a full one", Check.read(x, 3, "z"), 1);
        Check.due("read nothing into 0", Check.read(x, 0, ""), 0);
        Check.due("the documents", State.documents(x), ",b,c,z ");
        Doc.says(11, "The input consists of items, possibly none;");
        Told.dueRead("", "");
        Told.dueRead("a", "a");
        Told.dueRead("z", "z");
        Told.dueRead("az", "az");
        Told.dueReadError("`", 0);
        Told.dueReadError("{", 0);
        Told.dueReadError("A", 0);
        Told.dueReadError("Z", 0);
        Told.dueReadError("a ", 1);
        Told.dueRead("(a)", "a");
        Told.dueRead("(ab)(z)", "abz");
        Told.dueReadError("()", 1);
        Told.dueReadError("a()", 2);
        Told.dueReadError("(())", 2);
        Told.dueRead("a2", "aa");
        Told.dueRead("a9", "aaaaaaaaa");
        Told.dueRead("(ab)2", "abab");
        Told.dueRead("(ab)9", "ababababababababab");
        Told.dueRead("(a2b)2", "aabaab");
        Told.dueRead("ba2", "baa");
    }

    private static void readRepeats() {
        Doc.says(11, "The input consists of items, possibly none;");
        for (char digit : new char[] {'0', '1', '/', ':'}) {
            Told.dueReadError("a" + digit, 1);
            Told.dueReadError("(a)" + digit, 3);
        }
        for (char digit = '2'; digit <= '9'; digit++) {
            Told.dueRead("a" + digit, "a".repeat(digit - '0'));
        }
        Told.dueReadError("2", 0);
        Told.dueReadError("9a", 0);
        Told.dueReadError("(2a)", 1);
        Told.dueReadError("a22", 2);
        Told.dueReadError("(a)99", 4);
    }

    private static void readOpen() {
        Doc.says(11, "At most 4 parentheses may be open at the same time.");
        Told.dueRead("((((a))))", "a");
        Told.dueRead("((((a)2)2)2)2", "a".repeat(16));
        Told.dueReadError("(((((a)))))", 4);
        Told.dueRead("((((a))))((((b))))", "ab");
        Told.dueRead("(a)(b)(c)(d)(e)", "abcde");
        Told.dueRead("(((a)(b)(c(d))))", "abcd");
        Told.dueReadError("(((a)((b", 8);
        Told.dueReadError("(((a)(((b", 7);
        Told.dueReadError("a((((b(", 6);
    }

    private static void readErrors() {
        Doc.says(11, "The error position is the position, from 0, of the first character");
        Told.dueReadError(")", 0);
        Told.dueReadError("a)", 1);
        Told.dueReadError("(a))", 3);
        Told.dueReadError("(", 1);
        Told.dueReadError("(a", 2);
        Told.dueReadError("(((a)2b)", 8);
        Told.dueReadError("(((((", 4);
        Told.dueReadError("((((", 4);
        Told.dueReadError("a9a9a9?", 6);
        Told.dueReadError("((((a9)9)9)9)9?", 14);
        Doc.says(11, "Returns the number of lines, or -100 minus the error position.");
        Told.dueRead("", "");
        Told.dueRead("a9b9c6", "aaaaaaaaabbbbbbbbbcccccc");
        Told.dueReadError("?", 0);
        // A full input: 50 characters, with an error at the first, at the last, and behind the last one.
        Told.dueRead("((((a))))".repeat(5) + "(a)2b", "aaaaaaab");
        Told.dueReadError("?".repeat(50), 0);
        Told.dueReadError("((((a))))".repeat(5) + "(a)2?", 49);
        Told.dueReadError("((((a))))".repeat(5) + "(a)2(", 50);
    }

    private static void readEmptiesInput() {
        Doc.says(11, "The input is empty afterwards in every case, even if an exception is thrown.");
        String[] inputs = {"", "ab2", "(ab", "?", "a9b9c7", "?".repeat(50)};
        for (String input : inputs) {
            for (int register : new int[] {0, 3, -1, 4}) {
                MergeWorkbench x = new MergeWorkbench();
                Check.feed(x, input);
                try {
                    x.readDocument(register);
                } catch (IllegalArgumentException | IllegalStateException e) {
                    Check.due(input + " into " + register + " is refused",
                            register < 0 || register > 3 || input.length() == 6, true);
                }
                Check.due("feed after " + input + " into " + register, x.feed('z'), 1);
                Check.due("read after it", x.readDocument(1), 1);
                Check.due("what was read", Check.text(x, 1), "z");
            }
        }
        Doc.says(11, "With an error, the register stays.");
        State.Maker before = State::settled;
        for (String input : new String[] {"?", "ab(", "a22", "(((((", "a9b9c9d9)"}) {
            Check.due("the state after " + input, State.of(() -> {
                MergeWorkbench x = before.make();
                Check.read(x, 0, input);
                return x;
            }), State.of(before));
        }
    }

    private static MergeWorkbench settledWith(String input) {
        MergeWorkbench x = State.settled();
        Check.feed(x, input);
        return x;
    }

    private static void readRefused() {
        Doc.says(11, "Throws IllegalArgumentException if there is no such register");
        for (int register : NO_REGISTERS) {
            for (String input : new String[] {"", "ab2", "?", "a9b9c7"}) {
                Check.dueChanged("read " + input + " into " + register, ARGUMENT, () -> settledWith(input),
                        y -> y.readDocument(register), State::settled);
            }
        }
        Doc.says(11, "Throws IllegalStateException if the input has no error");
        Told.dueRead("a9b9c6", "aaaaaaaaabbbbbbbbbcccccc");
        Told.dueRead(FULL, FULL);
        Told.dueRead("(abcdefgh)3", "abcdefghabcdefghabcdefgh");
        Told.dueRead("((ab)3)4", "ab".repeat(12));
        Told.dueReadError("a9b9c7)", 6);
        String[] tooLong = {"a9b9c7", FULL + "y", "a9b9c6d", "(abcde)5", "((ab)3a2)3a", "((((a)5)5))",
            "z".repeat(50), "((((z9)9)9)9)9((((z9)9)9)9)9"};
        for (String input : tooLong) {
            Check.dueChanged("read " + input, STATE, () -> settledWith(input), y -> y.readDocument(3),
                    State::settled);
        }
        // Parentheses that were open in a refused input are not open in the next one.
        MergeWorkbench x = new MergeWorkbench();
        Check.feed(x, "((((a9b9c7))))");
        Check.dueThrows("read too much in parentheses", STATE, () -> x.readDocument(0));
        Check.due("read the next one", Check.read(x, 0, "b(a)2((((c)2)2))"), 7);
        Check.due("its document", Check.text(x, 0), "baacccc");
    }
}
