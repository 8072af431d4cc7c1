/** Promises 1 to 11: a new object, documents, and the input. */
public final class DocumentTest {
    private static final Class<IllegalArgumentException> ARGUMENT = IllegalArgumentException.class;
    private static final Class<IllegalStateException> STATE = IllegalStateException.class;
    private static final Class<IndexOutOfBoundsException> INDEX = IndexOutOfBoundsException.class;
    private static final String FULL = "(abcdefgh)3";

    public static void main(String[] args) {
        newObject();
        append();
        insert();
        delete();
        lengthAndLine();
        copy();
        isSame();
        distance();
        feed();
        readDocument();
        readErrors();
        readExceptions();
        Check.end();
    }

    private static void newObject() {
        MergeWorkbench x = new MergeWorkbench();
        for (int register = 0; register < 4; register++) {
            Check.due("length of a new document", x.length(register), 0);
        }
        Check.dueThrows("partner without comparison", STATE, () -> x.partner(0));
        Check.dueThrows("chunks without merge", STATE, x::chunks);
        Check.dueThrows("hunk without patch", STATE, () -> x.hunk(0, 0));
        Check.dueThrows("undo without change", STATE, x::undo);
        Check.dueThrows("restore without save", STATE, x::restore);
        Check.due("first mode", x.setMode(0), 0);
        Check.due("first shrinking", x.setShrinking(true), true);
        Check.due("first character", x.feed('a'), 1);
        Check.due("another object is new", new MergeWorkbench().feed('a'), 1);
    }

    private static void append() {
        MergeWorkbench x = new MergeWorkbench();
        Check.due("append", x.append(3, 0), 1);
        Check.due("append", x.append(3, 25), 2);
        Check.due("appended", Check.text(x, 3), "az");
        Check.due("other document", x.length(2), 0);
        Check.dueThrows("append to -1", ARGUMENT, () -> x.append(-1, 0));
        Check.dueThrows("append to 4", ARGUMENT, () -> x.append(4, 0));
        Check.dueThrows("append line -1", ARGUMENT, () -> x.append(0, -1));
        Check.dueThrows("append line 26", ARGUMENT, () -> x.append(0, 26));
        for (int line = 2; line < 24; line++) {
            Check.due("append", x.append(3, line), line + 1);
        }
        Check.dueThrows("append a 25th line", STATE, () -> x.append(3, 0));
        Check.dueThrows("append a wrong 25th line", ARGUMENT, () -> x.append(3, 26));
        Check.due("length stays", x.length(3), 24);
    }

    private static void insert() {
        MergeWorkbench x = Check.with("bd");
        Check.due("insert first", x.insert(0, 0, 0), 3);
        Check.due("insert between", x.insert(0, 2, 2), 4);
        Check.due("insert last", x.insert(0, 4, 4), 5);
        Check.due("inserted", Check.text(x, 0), "abcde");
        Check.dueThrows("insert to 4", ARGUMENT, () -> x.insert(4, 0, 0));
        Check.dueThrows("insert to -1", ARGUMENT, () -> x.insert(-1, 0, 0));
        Check.dueThrows("insert line 26", ARGUMENT, () -> x.insert(0, 0, 26));
        Check.dueThrows("insert line -1", ARGUMENT, () -> x.insert(0, 0, -1));
        Check.dueThrows("insert at 6", INDEX, () -> x.insert(0, 6, 0));
        Check.dueThrows("insert at -1", INDEX, () -> x.insert(0, -1, 0));
        Check.dueThrows("insert wrong line at -1", ARGUMENT, () -> x.insert(0, -1, 26));
        Check.read(x, 0, FULL);
        Check.dueThrows("insert a 25th line", STATE, () -> x.insert(0, 0, 0));
        Check.dueThrows("insert a 25th line nowhere", STATE, () -> x.insert(0, 25, 0));
        Check.dueThrows("insert a wrong 25th line", ARGUMENT, () -> x.insert(0, 25, 26));
        Check.due("full document stays", Check.text(x, 0), "abcdefghabcdefghabcdefgh");
    }

    private static void delete() {
        MergeWorkbench x = Check.with("abcd");
        Check.due("delete between", x.delete(0, 1), 1);
        Check.due("delete last", x.delete(0, 2), 3);
        Check.due("delete first", x.delete(0, 0), 0);
        Check.due("deleted", Check.text(x, 0), "c");
        Check.dueThrows("delete at 1", INDEX, () -> x.delete(0, 1));
        Check.dueThrows("delete at -1", INDEX, () -> x.delete(0, -1));
        Check.dueThrows("delete from 4", ARGUMENT, () -> x.delete(4, 0));
        Check.dueThrows("delete from -1", ARGUMENT, () -> x.delete(-1, -1));
        Check.due("delete the only one", x.delete(0, 0), 2);
        Check.dueThrows("delete from an empty document", INDEX, () -> x.delete(0, 0));
    }

    private static void lengthAndLine() {
        MergeWorkbench x = Check.with("", "xyz");
        Check.due("length", x.length(1), 3);
        Check.due("line 0", x.line(1, 0), 23);
        Check.due("line 2", x.line(1, 2), 25);
        Check.dueThrows("length of 4", ARGUMENT, () -> x.length(4));
        Check.dueThrows("length of -1", ARGUMENT, () -> x.length(-1));
        Check.dueThrows("line of 4", ARGUMENT, () -> x.line(4, 9));
        Check.dueThrows("line of -1", ARGUMENT, () -> x.line(-1, 0));
        Check.dueThrows("line at 3", INDEX, () -> x.line(1, 3));
        Check.dueThrows("line at -1", INDEX, () -> x.line(1, -1));
        Check.dueThrows("line of an empty document", INDEX, () -> x.line(0, 0));
    }

    private static void copy() {
        MergeWorkbench x = Check.with("abc", "vwxyz");
        Check.due("copy", x.copy(0, 1), 3);
        Check.due("copied", Check.text(x, 1), "abc");
        x.append(0, 3);
        Check.due("the copy is its own", Check.text(x, 1), "abc");
        Check.due("copy to itself", x.copy(0, 0), 4);
        Check.due("copied to itself", Check.text(x, 0), "abcd");
        Check.due("copy an empty one", x.copy(3, 0), 0);
        Check.dueThrows("copy from 4", ARGUMENT, () -> x.copy(4, 1));
        Check.dueThrows("copy to 4", ARGUMENT, () -> x.copy(0, 4));
        Check.dueThrows("copy from -1", ARGUMENT, () -> x.copy(-1, 1));
        Check.dueThrows("copy to -1", ARGUMENT, () -> x.copy(0, -1));
        Check.due("document stays", Check.text(x, 1), "abc");
    }

    private static void isSame() {
        MergeWorkbench x = Check.with("abc", "abd", "ab", "abc");
        Check.due("same", x.isSame(0, 3), true);
        Check.due("same as itself", x.isSame(1, 1), true);
        Check.due("other line", x.isSame(0, 1), false);
        Check.due("shorter", x.isSame(0, 2), false);
        Check.due("longer", x.isSame(2, 0), false);
        Check.dueThrows("isSame with 4", ARGUMENT, () -> x.isSame(0, 4));
        Check.dueThrows("isSame of -1", ARGUMENT, () -> x.isSame(-1, 0));
    }

    private static void distance() {
        MergeWorkbench x = Check.with("abcabba", "cbabac", "", "xyz");
        Check.due("distance", x.distance(0, 1), 5);
        Check.due("distance the other way", x.distance(1, 0), 5);
        Check.due("distance to nothing", x.distance(0, 2), 7);
        Check.due("distance to itself", x.distance(0, 0), 0);
        Check.due("distance of all", x.distance(0, 3), 10);
        Check.dueThrows("distance to 4", ARGUMENT, () -> x.distance(0, 4));
        Check.dueThrows("distance of -1", ARGUMENT, () -> x.distance(-1, 0));
        Check.dueThrows("distance makes no comparison", STATE, x::differences);
        MergeWorkbench anchored = Check.with("xaab", "aabx");
        anchored.setMode(1);
        Check.due("distance does not use the mode", anchored.distance(0, 1), 2);
    }

    private static void feed() {
        MergeWorkbench x = new MergeWorkbench();
        Check.due("feed any character", x.feed((char) 0), 1);
        Check.due("feed any character", x.feed((char) 65535), 2);
        for (int length = 3; length <= 50; length++) {
            Check.due("feed", x.feed('a'), length);
        }
        Check.dueThrows("feed a 51st character", STATE, () -> x.feed('a'));
        Check.due("the input was kept", x.readDocument(0), -100);
        Check.due("feed after reading", x.feed('a'), 1);
    }

    private static void readDocument() {
        Told.dueRead("", "");
        Told.dueRead("az", "az");
        Told.dueRead("a2b9", "aabbbbbbbbb");
        Told.dueRead("(a)", "a");
        Told.dueRead("(ab)3c", "abababc");
        Told.dueRead("((a2b)2c)2", "aabaabcaabaabc");
        Told.dueRead("a(b(c)2)2d2", "abccbccdd");
        Told.dueRead("((((a))))", "a");
        Told.dueRead("((((a)2)2)2)2(b)(((c)))", "aaaaaaaaaaaaaaaabc");
        Told.dueRead("(a)(b)", "ab");
        Told.dueRead("a2a2", "aaaa");
        Told.dueRead("a9b9c6", "aaaaaaaaabbbbbbbbbcccccc");
        Told.dueRead("((((a))))((((b))))", "ab");
    }

    private static void readErrors() {
        Told.dueReadError("2", 0);
        Told.dueReadError(")", 0);
        Told.dueReadError("A", 0);
        Told.dueReadError("`", 0);
        Told.dueReadError("{", 0);
        Told.dueReadError("()", 1);
        Told.dueReadError("(2", 1);
        Told.dueReadError("a0", 1);
        Told.dueReadError("a1", 1);
        Told.dueReadError("a22", 2);
        Told.dueReadError("(a)22", 4);
        Told.dueReadError("a b", 1);
        Told.dueReadError("(", 1);
        Told.dueReadError("(a", 2);
        Told.dueReadError("((a)2b", 6);
        Told.dueReadError("(a))", 3);
        Told.dueReadError("(((((a", 4);
        Told.dueReadError("(((((", 4);
        Told.dueReadError("((((", 4);
        Told.dueReadError("((((a)(b", 8);
        Told.dueReadError("((((a)((b", 7);
        Told.dueReadError("a" + (char) 353, 1);
        Told.dueReadError("a9a9a9?", 6);
        Told.dueReadError("a9a9a9(", 7);
    }

    private static void readExceptions() {
        MergeWorkbench x = Check.with("pq", "r");
        Check.feed(x, "ab");
        Check.dueThrows("read into 4", ARGUMENT, () -> x.readDocument(4));
        Check.due("the input is empty after it", x.feed('a'), 1);
        Check.dueThrows("read into -1", ARGUMENT, () -> x.readDocument(-1));
        Check.due("read the empty input", x.readDocument(1), 0);
        Check.feed(x, "a9a9a7");
        Check.dueThrows("read 25 lines", STATE, () -> x.readDocument(0));
        Check.due("the document stays", Check.text(x, 0), "pq");
        Check.due("the input is empty after it, too", x.feed('a'), 1);
        Check.feed(x, "9");
        Check.dueThrows("an error, and no such register", ARGUMENT, () -> x.readDocument(4));
        Check.feed(x, "a9a9a9");
        Check.dueThrows("too many lines, and no such register", ARGUMENT, () -> x.readDocument(9));
        Check.feed(x, "((((a9)9)9)9)9((((a9)9)9)9)9((((a9)9)9)9)9");
        Check.dueThrows("read far too many lines", STATE, () -> x.readDocument(0));
        Check.feed(x, "abcdefghijklmnopqrstuvwxyz");
        Check.dueThrows("read 26 letters", STATE, () -> x.readDocument(0));
    }
}
