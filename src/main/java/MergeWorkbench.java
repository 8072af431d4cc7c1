import java.util.NoSuchElementException;

/** A workbench for comparing and merging short documents line by line. */
public final class MergeWorkbench {
    private static final int REGISTERS = 4;
    private static final int MOST_LINES = 24;
    private static final int HIGHEST_LINE = 25;
    private static final int MOST_INPUT = 50;
    private static final int MOST_OPEN = 4;
    private static final int MOST_UNDONE = 8;
    private static final int MOST_MINIMUM = 9;
    private static final int MOST_CONTEXT = 3;
    private static final int MOST_FUZZ = 2;
    private static final int FARTHEST = 10;
    private static final int READ_ERROR = -100;

    /** Stands for a position, an index or a number that there is not. */
    private static final int NONE = -1;

    private static final int PLAIN = 0;
    private static final int ANCHORED = 1;

    private static final int STEP_KEPT = 0;
    private static final int STEP_DELETED = 100;
    private static final int STEP_INSERTED = 200;

    private static final int STABLE = 0;
    private static final int FROM_LEFT = 1;
    private static final int FROM_RIGHT = 2;
    private static final int FROM_BOTH = 3;
    private static final int CONFLICT = 4;

    private static final int CHOICE_LEFT = 0;
    private static final int CHOICE_RIGHT = 1;
    private static final int CHOICE_LEFT_RIGHT = 2;
    private static final int CHOICE_RIGHT_LEFT = 3;
    private static final int CHOICE_BASE = 4;

    private static final int MARK_LEFT = -1;
    private static final int MARK_RIGHT = -2;
    private static final int MARK_END = -3;

    /** The columns of a hunk, as the document numbers them. */
    private static final int OLD_POSITION = 0;
    private static final int NEW_POSITION = 2;
    private static final int LEADING = 4;
    private static final int TRAILING = 5;

    private final Shelf documents = new Shelf(REGISTERS);
    private final Shelf savedDocuments = new Shelf(REGISTERS);
    private final History history = new History();
    private final Input input = new Input();
    private final Lines expansion = new Lines(MOST_LINES);
    private final Alignment measuring = new Alignment();
    private final Comparison lastComparison = new Comparison();
    private final Merge lastMerge = new Merge();
    private final Patch lastPatch = new Patch();
    private int currentMode = PLAIN;
    private int savedMode = PLAIN;
    private boolean hasSaved = false;
    private boolean shrinking = true;

    public MergeWorkbench() {
    }

    // ---- documents

    public int append(int register, int line) throws IllegalArgumentException, IllegalStateException {
        Lines document = document(register);
        requireLine(line);
        requireRoom(document);
        history.remember(register, document);
        document.push(line);
        return document.size();
    }

    public int insert(int register, int position, int line)
            throws IllegalArgumentException, IllegalStateException, IndexOutOfBoundsException {
        Lines document = document(register);
        requireLine(line);
        requireRoom(document);
        if (position < 0 || position > document.size()) {
            throw new IndexOutOfBoundsException("no such position");
        }
        history.remember(register, document);
        document.pushAt(position, line);
        return document.size();
    }

    public int delete(int register, int position) throws IllegalArgumentException, IndexOutOfBoundsException {
        Lines document = document(register);
        if (!document.has(position)) {
            throw new IndexOutOfBoundsException("no such position");
        }
        history.remember(register, document);
        return document.removeAt(position);
    }

    public int length(int register) throws IllegalArgumentException {
        return document(register).size();
    }

    public int line(int register, int position) throws IllegalArgumentException, IndexOutOfBoundsException {
        Lines document = document(register);
        if (!document.has(position)) {
            throw new IndexOutOfBoundsException("no such position");
        }
        return document.at(position);
    }

    public int copy(int from, int to) throws IllegalArgumentException {
        Lines source = document(from);
        return changeTo(to, document(to), source);
    }

    public boolean isSame(int one, int other) throws IllegalArgumentException {
        Lines first = document(one);
        Lines second = document(other);
        return first.samePart(0, first.size(), second, 0, second.size());
    }

    public int distance(int one, int other) throws IllegalArgumentException {
        Lines first = document(one);
        Lines second = document(other);
        measuring.build(first, second, PLAIN);
        return first.size() + second.size() - 2 * measuring.pairs();
    }

    public int feed(char character) throws IllegalStateException {
        if (input.isFull()) {
            throw new IllegalStateException("the input is full");
        }
        return input.take(character);
    }

    public int readDocument(int register) throws IllegalArgumentException, IllegalStateException {
        int error = input.errorPosition();
        boolean fits = error == NONE && input.expandInto(expansion);
        // The input is emptied before anything is refused: the document wants it empty in every case.
        input.discard();
        Lines document = document(register);
        if (error != NONE) {
            return READ_ERROR - error;
        }
        if (!fits) {
            throw new IllegalStateException("the document would have too many lines");
        }
        return changeTo(register, document, expansion);
    }

    // ---- comparison

    public int setMode(int mode) throws IllegalArgumentException {
        if (mode != PLAIN && mode != ANCHORED) {
            throw new IllegalArgumentException("no such mode");
        }
        int previous = currentMode;
        currentMode = mode;
        return previous;
    }

    public int compare(int a, int b) throws IllegalArgumentException {
        Lines first = document(a);
        Lines second = document(b);
        return lastComparison.make(first, second, currentMode);
    }

    public int partner(int position) throws IllegalStateException, IndexOutOfBoundsException {
        requireComparison();
        if (!lastComparison.first().has(position)) {
            throw new IndexOutOfBoundsException("no such position");
        }
        return lastComparison.alignment().partnerOf(position);
    }

    public int anchors() throws IllegalStateException {
        requireComparison();
        return lastComparison.alignment().anchorCount();
    }

    public int differences() throws IllegalStateException {
        requireComparison();
        return lastComparison.parts().rows();
    }

    public int difference(int index, int what)
            throws IllegalStateException, IndexOutOfBoundsException, IllegalArgumentException {
        requireComparison();
        return property(lastComparison.parts(), index, what, 4);
    }

    public int step(int index) throws IllegalStateException, NoSuchElementException {
        requireComparison();
        if (!lastComparison.script().has(index)) {
            throw new NoSuchElementException("no such step");
        }
        return lastComparison.script().at(index);
    }

    public double similarity() throws IllegalStateException, ArithmeticException {
        requireComparison();
        int lines = lastComparison.first().size() + lastComparison.second().size();
        if (lines == 0) {
            throw new ArithmeticException("both documents are empty");
        }
        return (double) (2 * lastComparison.alignment().pairs()) / (double) lines;
    }

    public int findMoves(int minimum) throws IllegalArgumentException, IllegalStateException {
        if (minimum < 1 || minimum > MOST_MINIMUM) {
            throw new IllegalArgumentException("no such minimum");
        }
        requireComparison();
        return lastComparison.searchMoves(minimum);
    }

    public int move(int index, int what) throws IndexOutOfBoundsException, IllegalArgumentException {
        return property(lastComparison.moved(), index, what, 3);
    }

    // ---- merges

    public boolean setShrinking(boolean on) {
        boolean previous = shrinking;
        shrinking = on;
        return previous;
    }

    public int merge(int base, int left, int right) throws IllegalArgumentException {
        Lines baseDocument = document(base);
        Lines leftDocument = document(left);
        Lines rightDocument = document(right);
        lastMerge.hold(baseDocument, leftDocument, rightDocument);
        return lastMerge.make(currentMode, shrinking);
    }

    public int chunks() throws IllegalStateException {
        requireMerge();
        return lastMerge.parts().rows();
    }

    public int chunk(int index, int what)
            throws IllegalStateException, IndexOutOfBoundsException, IllegalArgumentException {
        requireMerge();
        return property(lastMerge.parts(), index, what, 7);
    }

    public int resolve(int conflict, int choice)
            throws IllegalStateException, NoSuchElementException, IllegalArgumentException {
        requireMerge();
        if (!lastMerge.hasConflict(conflict)) {
            throw new NoSuchElementException("no such conflict");
        }
        if (choice < CHOICE_LEFT || choice > CHOICE_BASE) {
            throw new IllegalArgumentException("no such choice");
        }
        return lastMerge.choose(conflict, choice);
    }

    public int unresolved() throws IllegalStateException {
        requireMerge();
        return lastMerge.openConflicts();
    }

    public int mergedLength() throws IllegalStateException {
        requireMerge();
        return lastMerge.outcomeLines().size();
    }

    public int merged(int index) throws IllegalStateException, IndexOutOfBoundsException {
        requireMerge();
        if (!lastMerge.outcomeLines().has(index)) {
            throw new IndexOutOfBoundsException("no such index");
        }
        return lastMerge.outcomeLines().at(index);
    }

    public int accept(int register)
            throws IllegalArgumentException, IllegalStateException, UnsupportedOperationException {
        Lines document = document(register);
        requireMerge();
        if (lastMerge.openConflicts() > 0) {
            throw new IllegalStateException("there is an unresolved conflict");
        }
        if (lastMerge.outcomeLines().size() > MOST_LINES) {
            throw new UnsupportedOperationException("the merged document has too many lines");
        }
        return changeTo(register, document, lastMerge.outcomeLines());
    }

    // ---- patches

    public int makePatch(int context) throws IllegalArgumentException, IllegalStateException {
        if (context < 0 || context > MOST_CONTEXT) {
            throw new IllegalArgumentException("no such context");
        }
        requireComparison();
        return lastPatch.make(lastComparison, context);
    }

    public int hunk(int index, int what)
            throws IllegalStateException, IndexOutOfBoundsException, IllegalArgumentException {
        requirePatch();
        return property(lastPatch.parts(), index, what, 6);
    }

    public int apply(int register, int fuzz, boolean reversed)
            throws IllegalArgumentException, IllegalStateException, UnsupportedOperationException {
        Lines document = document(register);
        if (fuzz < 0 || fuzz > MOST_FUZZ) {
            throw new IllegalArgumentException("no such fuzz");
        }
        requirePatch();
        Lines patched = lastPatch.attempt(document, fuzz, reversed);
        if (patched.size() > MOST_LINES) {
            throw new UnsupportedOperationException("the document would have too many lines");
        }
        changeTo(register, document, patched);
        return lastPatch.keepOutcomes();
    }

    public int outcome(int index, int what) throws NoSuchElementException, IllegalArgumentException {
        if (!lastPatch.outcomes().hasRow(index)) {
            throw new NoSuchElementException("no such outcome");
        }
        if (what < 0 || what > 1) {
            throw new IllegalArgumentException("no such property");
        }
        return lastPatch.outcomes().at(index, what);
    }

    // ---- undo and snapshot

    public int undo() throws IllegalStateException {
        if (history.isEmpty()) {
            throw new IllegalStateException("there is nothing to undo");
        }
        return history.takeBack(documents);
    }

    public int save() {
        savedDocuments.become(documents);
        savedMode = currentMode;
        hasSaved = true;
        return savedDocuments.allLines();
    }

    public int restore() throws IllegalStateException {
        if (!hasSaved) {
            throw new IllegalStateException("nothing was saved");
        }
        documents.become(savedDocuments);
        currentMode = savedMode;
        history.forget();
        return documents.allLines();
    }

    // ---- what the calls share

    private Lines document(int register) {
        if (register < 0 || register >= REGISTERS) {
            throw new IllegalArgumentException("no such register");
        }
        return documents.place(register);
    }

    private static void requireLine(int line) {
        if (line < 0 || line > HIGHEST_LINE) {
            throw new IllegalArgumentException("no such line");
        }
    }

    private static void requireRoom(Lines document) {
        if (document.size() >= MOST_LINES) {
            throw new IllegalStateException("the document is full");
        }
    }

    private void requireComparison() {
        if (!lastComparison.exists()) {
            throw new IllegalStateException("there is no comparison");
        }
    }

    private void requireMerge() {
        if (!lastMerge.exists()) {
            throw new IllegalStateException("there is no merge");
        }
    }

    private void requirePatch() {
        if (!lastPatch.exists()) {
            throw new IllegalStateException("there is no patch");
        }
    }

    private static int property(Table table, int index, int what, int properties) {
        if (!table.hasRow(index)) {
            throw new IndexOutOfBoundsException("no such index");
        }
        if (what < 0 || what >= properties) {
            throw new IllegalArgumentException("no such property");
        }
        return table.at(index, what);
    }

    /** Every change of a whole document goes through here, so that it can be undone. */
    private int changeTo(int register, Lines document, Lines wanted) {
        history.remember(register, document);
        document.become(wanted);
        return document.size();
    }

    /** A row of numbers in a room that is made once; an index that it has not is never followed. */
    private static final class Lines {
        private final int[] cells;
        private int count;

        Lines(int room) {
            cells = new int[room > 0 ? room : 0];
        }

        int size() {
            return count;
        }

        boolean isFull() {
            return count >= cells.length;
        }

        boolean has(int index) {
            return index >= 0 && index < count;
        }

        int at(int index) {
            return index >= 0 && index < count && index < cells.length ? cells[index] : NONE;
        }

        void put(int index, int value) {
            if (index >= 0 && index < count && index < cells.length) {
                cells[index] = value;
            }
        }

        void clear() {
            count = 0;
        }

        void push(int value) {
            if (count >= 0 && count < cells.length) {
                cells[count] = value;
                count++;
            }
        }

        void pushPart(Lines from, int begin, int end) {
            for (int i = begin; i < end; i++) {
                push(from.at(i));
            }
        }

        void pushAt(int position, int value) {
            push(value);
            for (int i = count - 1; i > position; i--) {
                put(i, at(i - 1));
            }
            put(position, value);
        }

        int removeAt(int position) {
            int removed = at(position);
            if (has(position)) {
                for (int i = position; i < count - 1; i++) {
                    put(i, at(i + 1));
                }
                count--;
            }
            return removed;
        }

        void become(Lines other) {
            if (other == this) {
                return;
            }
            clear();
            pushPart(other, 0, other.size());
        }

        void fillWith(int value, int size) {
            clear();
            for (int i = 0; i < size; i++) {
                push(value);
            }
        }

        /** The first position from begin on, and before end, at which the value is, or NONE. */
        int find(int value, int begin, int end) {
            for (int i = begin; i < end; i++) {
                if (at(i) == value) {
                    return i;
                }
            }
            return NONE;
        }

        boolean isOnce(int value) {
            int times = 0;
            for (int i = 0; i < count; i++) {
                if (at(i) == value) {
                    times++;
                }
            }
            return times == 1;
        }

        boolean samePart(int begin, int end, Lines other, int otherBegin, int otherEnd) {
            if (end - begin != otherEnd - otherBegin) {
                return false;
            }
            for (int i = begin; i < end; i++) {
                if (at(i) != other.at(otherBegin + i - begin)) {
                    return false;
                }
            }
            return true;
        }
    }

    /** Rows of a fixed number of columns; a cell that there is not is never followed. */
    private static final class Table {
        private final int[] cells;
        private final int columns;
        private int rowCount;

        Table(int mostRows, int columns) {
            int room = mostRows * columns;
            this.cells = new int[room > 0 ? room : 0];
            this.columns = columns;
        }

        int rows() {
            return rowCount;
        }

        boolean hasRow(int row) {
            return row >= 0 && row < rowCount;
        }

        int at(int row, int column) {
            int index = row * columns + column;
            boolean exists = row >= 0 && row < rowCount && column >= 0 && column < columns;
            return exists && index >= 0 && index < cells.length ? cells[index] : NONE;
        }

        void put(int row, int column, int value) {
            int index = row * columns + column;
            boolean exists = row >= 0 && row < rowCount && column >= 0 && column < columns;
            if (exists && index >= 0 && index < cells.length) {
                cells[index] = value;
            }
        }

        void clear() {
            rowCount = 0;
        }

        /** Adds a row of NONE, and returns its index. */
        int addRow() {
            int row = rowCount;
            rowCount++;
            for (int column = 0; column < columns; column++) {
                put(row, column, NONE);
            }
            return row;
        }

        void addPair(int first, int second) {
            int row = addRow();
            put(row, 0, first);
            put(row, 1, second);
        }
    }

    /** A fixed number of places for documents. */
    private static final class Shelf {
        private final Lines[] places;
        private final Lines nowhere = new Lines(0);

        Shelf(int size) {
            places = new Lines[size > 0 ? size : 0];
            for (int i = 0; i < places.length; i++) {
                places[i] = new Lines(MOST_LINES);
            }
        }

        Lines place(int index) {
            if (index < 0 || index >= places.length) {
                return nowhere;
            }
            Lines found = places[index];
            return found == null ? nowhere : found;
        }

        void become(Shelf other) {
            for (int i = 0; i < places.length; i++) {
                place(i).become(other.place(i));
            }
        }

        int allLines() {
            int sum = 0;
            for (int i = 0; i < places.length; i++) {
                sum += place(i).size();
            }
            return sum;
        }
    }

    /** The latest changes, each with the document as it was before, in places that are used in turn. */
    private static final class History {
        private final Shelf before = new Shelf(MOST_UNDONE);
        private final Lines registers = new Lines(MOST_UNDONE);
        private int next;
        private int count;

        History() {
            registers.fillWith(0, MOST_UNDONE);
        }

        boolean isEmpty() {
            return count == 0;
        }

        void forget() {
            count = 0;
        }

        void remember(int register, Lines document) {
            registers.put(next, register);
            before.place(next).become(document);
            next = next < MOST_UNDONE - 1 ? next + 1 : 0;
            count = count < MOST_UNDONE ? count + 1 : MOST_UNDONE;
        }

        int takeBack(Shelf documents) {
            next = next > 0 ? next - 1 : MOST_UNDONE - 1;
            count--;
            int register = registers.at(next);
            documents.place(register).become(before.place(next));
            return register;
        }
    }

    /** The characters that were fed, and their reading as a document. */
    private static final class Input {
        private final Lines characters = new Lines(MOST_INPUT);
        private final Lines groupBegins = new Lines(MOST_OPEN);

        boolean isFull() {
            return characters.isFull();
        }

        int take(char character) {
            characters.push(character);
            return characters.size();
        }

        void discard() {
            characters.clear();
        }

        /** The position of the first character that cannot stand where it does, or NONE. */
        int errorPosition() {
            int open = 0;
            int previous = NONE;
            for (int i = 0; i < characters.size(); i++) {
                int character = characters.at(i);
                if (!mayFollow(previous, character, open)) {
                    return i;
                }
                if (character == '(') {
                    open++;
                } else if (character == ')') {
                    open--;
                }
                previous = character;
            }
            return open > 0 ? characters.size() : NONE;
        }

        private static boolean mayFollow(int previous, int character, int open) {
            if (character == '(') {
                return open < MOST_OPEN;
            }
            if (character == ')') {
                return open > 0 && previous != '(';
            }
            if (isDigit(character)) {
                return isLetter(previous) || previous == ')';
            }
            return isLetter(character);
        }

        private static boolean isLetter(int character) {
            return character >= 'a' && character <= 'z';
        }

        private static boolean isDigit(int character) {
            return character >= '2' && character <= '9';
        }

        /**
         * Writes the document that an input without error describes, and returns whether it has room.
         * It stops as soon as there are too many lines: no item makes a document shorter.
         */
        boolean expandInto(Lines document) {
            document.clear();
            groupBegins.clear();
            int itemBegin = 0;
            for (int i = 0; i < characters.size(); i++) {
                int character = characters.at(i);
                int times = 1;
                if (character == '(') {
                    groupBegins.push(document.size());
                } else if (character == ')') {
                    itemBegin = groupBegins.removeAt(groupBegins.size() - 1);
                } else if (isLetter(character)) {
                    itemBegin = document.size();
                    if (document.isFull()) {
                        return false;
                    }
                    document.push(character - 'a');
                } else {
                    times = character - '0';
                }
                if (!repeatEnd(document, itemBegin, times)) {
                    return false;
                }
            }
            return true;
        }

        /** Makes the part from begin on stand there so many times, if there is room. */
        private static boolean repeatEnd(Lines document, int begin, int times) {
            int end = document.size();
            if (begin + (end - begin) * times > MOST_LINES) {
                return false;
            }
            for (int i = 1; i < times; i++) {
                document.pushPart(document, begin, end);
            }
            return true;
        }
    }

    /** The pairs of two documents. */
    private static final class Alignment {
        private final Lines toSecond = new Lines(MOST_LINES);
        private final Lines toFirst = new Lines(MOST_LINES);
        private final Lines candidates = new Lines(MOST_LINES);
        private final Lines chains = new Lines(MOST_LINES);
        private final Table longest = new Table(MOST_LINES + 1, MOST_LINES + 1);
        private int pairCount;
        private int anchorPairs;

        Alignment() {
            for (int i = 0; i <= MOST_LINES; i++) {
                longest.addRow();
            }
        }

        int pairs() {
            return pairCount;
        }

        int anchorCount() {
            return anchorPairs;
        }

        int partnerOf(int position) {
            return toSecond.at(position);
        }

        boolean isFirstKept(int position) {
            return toSecond.at(position) != NONE;
        }

        boolean isSecondKept(int position) {
            return toFirst.at(position) != NONE;
        }

        void build(Lines a, Lines b, int mode) {
            toSecond.fillWith(NONE, a.size());
            toFirst.fillWith(NONE, b.size());
            pairCount = 0;
            anchorPairs = 0;
            if (mode == ANCHORED) {
                alignByAnchors(a, b);
            } else {
                alignPart(a, 0, a.size(), b, 0, b.size());
            }
        }

        private void addPair(int i, int j) {
            toSecond.put(i, j);
            toFirst.put(j, i);
            pairCount++;
        }

        private void alignPart(Lines a, int aBegin, int aEnd, Lines b, int bBegin, int bEnd) {
            measureEnds(a, aBegin, aEnd, b, bBegin, bEnd);
            int j = bBegin;
            for (int i = aBegin; i < aEnd; i++) {
                int k = b.find(a.at(i), j, bEnd);
                // The first equal line leaves the most behind it, so a later one never does better.
                if (k != NONE && longest.at(i + 1, k + 1) + 1 == longest.at(i, j)) {
                    addPair(i, k);
                    j = k + 1;
                }
            }
        }

        /** Fills in, for each two positions, how long an alignment of what is left from there on can be. */
        private void measureEnds(Lines a, int aBegin, int aEnd, Lines b, int bBegin, int bEnd) {
            for (int i = aEnd; i >= aBegin; i--) {
                for (int j = bEnd; j >= bBegin; j--) {
                    int most = 0;
                    if (i < aEnd && j < bEnd) {
                        most = a.at(i) == b.at(j)
                                ? longest.at(i + 1, j + 1) + 1
                                : Math.max(longest.at(i + 1, j), longest.at(i, j + 1));
                    }
                    longest.put(i, j, most);
                }
            }
        }

        private void alignByAnchors(Lines a, Lines b) {
            findCandidates(a, b);
            int left = measureChains();
            int aDone = 0;
            int bDone = 0;
            for (int i = 0; i < a.size(); i++) {
                int j = candidates.at(i);
                if (left > 0 && j >= bDone && chains.at(i) == left) {
                    alignPart(a, aDone, i, b, bDone, j);
                    addPair(i, j);
                    anchorPairs++;
                    aDone = i + 1;
                    bDone = j + 1;
                    left--;
                }
            }
            alignPart(a, aDone, a.size(), b, bDone, b.size());
        }

        private void findCandidates(Lines a, Lines b) {
            candidates.clear();
            for (int i = 0; i < a.size(); i++) {
                int line = a.at(i);
                boolean fits = a.isOnce(line) && b.isOnce(line);
                candidates.push(fits ? b.find(line, 0, b.size()) : NONE);
            }
        }

        /** Fills in how many anchors a sequence can have that begins with each candidate; returns the most. */
        private int measureChains() {
            int most = 0;
            chains.fillWith(0, candidates.size());
            for (int i = candidates.size() - 1; i >= 0; i--) {
                int behind = 0;
                for (int k = i + 1; k < candidates.size(); k++) {
                    if (candidates.at(k) > candidates.at(i)) {
                        behind = Math.max(behind, chains.at(k));
                    }
                }
                if (candidates.at(i) != NONE) {
                    chains.put(i, behind + 1);
                    most = Math.max(most, behind + 1);
                }
            }
            return most;
        }
    }

    /** The comparison that is kept, with its own copies of both documents. */
    private static final class Comparison {
        private final Lines a = new Lines(MOST_LINES);
        private final Lines b = new Lines(MOST_LINES);
        private final Alignment pairing = new Alignment();
        private final Table differenceTable = new Table(MOST_LINES + 1, 4);
        private final Lines steps = new Lines(2 * MOST_LINES);
        private final Table moves = new Table(MOST_LINES, 3);
        private final Lines freeInA = new Lines(MOST_LINES);
        private final Lines freeInB = new Lines(MOST_LINES);
        private boolean made;

        boolean exists() {
            return made;
        }

        Lines first() {
            return a;
        }

        Lines second() {
            return b;
        }

        Alignment alignment() {
            return pairing;
        }

        Table parts() {
            return differenceTable;
        }

        Lines script() {
            return steps;
        }

        Table moved() {
            return moves;
        }

        int make(Lines one, Lines other, int mode) {
            a.become(one);
            b.become(other);
            pairing.build(a, b, mode);
            differenceTable.clear();
            steps.clear();
            moves.clear();
            collectDifferences();
            made = true;
            return pairing.pairs();
        }

        private void collectDifferences() {
            int aDone = 0;
            int bDone = 0;
            for (int i = 0; i < a.size(); i++) {
                if (pairing.isFirstKept(i)) {
                    int j = pairing.partnerOf(i);
                    addDifference(aDone, i, bDone, j);
                    steps.push(STEP_KEPT + a.at(i));
                    aDone = i + 1;
                    bDone = j + 1;
                }
            }
            addDifference(aDone, a.size(), bDone, b.size());
        }

        private void addDifference(int aBegin, int aEnd, int bBegin, int bEnd) {
            if (aBegin == aEnd && bBegin == bEnd) {
                return;
            }
            int row = differenceTable.addRow();
            differenceTable.put(row, 0, aBegin);
            differenceTable.put(row, 1, aEnd);
            differenceTable.put(row, 2, bBegin);
            differenceTable.put(row, 3, bEnd);
            for (int i = aBegin; i < aEnd; i++) {
                steps.push(STEP_DELETED + a.at(i));
            }
            for (int j = bBegin; j < bEnd; j++) {
                steps.push(STEP_INSERTED + b.at(j));
            }
        }

        int searchMoves(int minimum) {
            moves.clear();
            freeAllButKept();
            boolean found = true;
            for (int i = 0; found && i < MOST_LINES; i++) {
                found = addLongestMove(minimum);
            }
            return moves.rows();
        }

        private void freeAllButKept() {
            freeInA.clear();
            for (int i = 0; i < a.size(); i++) {
                freeInA.push(pairing.isFirstKept(i) ? 0 : 1);
            }
            freeInB.clear();
            for (int j = 0; j < b.size(); j++) {
                freeInB.push(pairing.isSecondKept(j) ? 0 : 1);
            }
        }

        private boolean addLongestMove(int minimum) {
            int most = minimum - 1;
            int atA = NONE;
            int atB = NONE;
            for (int i = 0; i < a.size(); i++) {
                for (int j = 0; j < b.size(); j++) {
                    int run = runLength(i, j);
                    if (run > most) {
                        most = run;
                        atA = i;
                        atB = j;
                    }
                }
            }
            if (atA == NONE) {
                return false;
            }
            addMove(atA, atB, most);
            return true;
        }

        private int runLength(int i, int j) {
            int run = 0;
            while (run < MOST_LINES && isMovable(i + run, j + run)) {
                run++;
            }
            return run;
        }

        private boolean isMovable(int i, int j) {
            return freeInA.at(i) == 1 && freeInB.at(j) == 1 && a.at(i) == b.at(j);
        }

        private void addMove(int i, int j, int size) {
            int row = moves.addRow();
            moves.put(row, 0, i);
            moves.put(row, 1, j);
            moves.put(row, 2, size);
            for (int k = 0; k < size; k++) {
                freeInA.put(i + k, 0);
                freeInB.put(j + k, 0);
            }
        }
    }

    /** The merge that is kept, with its own copies of the three documents. */
    private static final class Merge {
        private static final int MOST_CHUNKS = 4 * (MOST_LINES + 1);
        private static final int MOST_RESULT = 8 * MOST_LINES;

        /** Behind the seven columns that the document numbers. */
        private static final int CHOICE = 7;

        private final Lines base = new Lines(MOST_LINES);
        private final Lines left = new Lines(MOST_LINES);
        private final Lines right = new Lines(MOST_LINES);
        private final Alignment toLeft = new Alignment();
        private final Alignment toRight = new Alignment();
        private final Table chunkTable = new Table(MOST_CHUNKS, 8);
        private final Lines conflictRows = new Lines(MOST_CHUNKS);
        private final Lines result = new Lines(MOST_RESULT);
        private boolean made;

        boolean exists() {
            return made;
        }

        Table parts() {
            return chunkTable;
        }

        Lines outcomeLines() {
            return result;
        }

        boolean hasConflict(int conflict) {
            return conflictRows.has(conflict);
        }

        void hold(Lines baseDocument, Lines leftDocument, Lines rightDocument) {
            base.become(baseDocument);
            left.become(leftDocument);
            right.become(rightDocument);
        }

        int make(int mode, boolean shrinking) {
            toLeft.build(base, left, mode);
            toRight.build(base, right, mode);
            chunkTable.clear();
            conflictRows.clear();
            int baseDone = 0;
            int leftDone = 0;
            int rightDone = 0;
            for (int i = 0; i < base.size(); i++) {
                if (toLeft.isFirstKept(i) && toRight.isFirstKept(i)) {
                    int l = toLeft.partnerOf(i);
                    int r = toRight.partnerOf(i);
                    addRegion(addPart(baseDone, i, leftDone, l, rightDone, r), shrinking);
                    addStable(i, l, r);
                    baseDone = i + 1;
                    leftDone = l + 1;
                    rightDone = r + 1;
                }
            }
            addRegion(addPart(baseDone, base.size(), leftDone, left.size(), rightDone, right.size()), shrinking);
            made = true;
            writeResult();
            return conflictRows.size();
        }

        /** Adds a chunk without a kind, and returns its row, or NONE if all its parts are empty. */
        private int addPart(int baseBegin, int baseEnd, int leftBegin, int leftEnd, int rightBegin, int rightEnd) {
            if (baseBegin == baseEnd && leftBegin == leftEnd && rightBegin == rightEnd) {
                return NONE;
            }
            int row = chunkTable.addRow();
            chunkTable.put(row, 1, baseBegin);
            chunkTable.put(row, 2, baseEnd);
            chunkTable.put(row, 3, leftBegin);
            chunkTable.put(row, 4, leftEnd);
            chunkTable.put(row, 5, rightBegin);
            chunkTable.put(row, 6, rightEnd);
            return row;
        }

        private void setKind(int row, int kind) {
            chunkTable.put(row, 0, kind);
        }

        private void addStable(int i, int l, int r) {
            int previous = chunkTable.rows() - 1;
            // A region between two stable lines would have made a chunk of another kind.
            if (chunkTable.at(previous, 0) == STABLE) {
                chunkTable.put(previous, 2, i + 1);
                chunkTable.put(previous, 4, l + 1);
                chunkTable.put(previous, 6, r + 1);
            } else {
                setKind(addPart(i, i + 1, l, l + 1, r, r + 1), STABLE);
            }
        }

        private void addRegion(int row, boolean shrinking) {
            if (row == NONE) {
                return;
            }
            int kind = kindOf(row);
            setKind(row, kind);
            if (kind == CONFLICT) {
                if (shrinking) {
                    shrink(row);
                } else {
                    conflictRows.push(row);
                }
            }
        }

        private int kindOf(int row) {
            if (samePart(left, row, 3, base, 1)) {
                return FROM_RIGHT;
            }
            if (samePart(right, row, 5, base, 1)) {
                return FROM_LEFT;
            }
            return samePart(left, row, 3, right, 5) ? FROM_BOTH : CONFLICT;
        }

        /** The columns are those of the begins of both parts; those of their ends stand behind them. */
        private boolean samePart(Lines one, int row, int oneColumn, Lines other, int otherColumn) {
            return one.samePart(chunkTable.at(row, oneColumn), chunkTable.at(row, oneColumn + 1),
                    other, chunkTable.at(row, otherColumn), chunkTable.at(row, otherColumn + 1));
        }

        /** Puts what both sides begin and end with into chunks of their own around the conflict. */
        private void shrink(int row) {
            int baseBegin = chunkTable.at(row, 1);
            int baseEnd = chunkTable.at(row, 2);
            int leftBegin = chunkTable.at(row, 3);
            int leftEnd = chunkTable.at(row, 4);
            int rightBegin = chunkTable.at(row, 5);
            int rightEnd = chunkTable.at(row, 6);
            int begin = commonBegin(leftBegin, leftEnd, rightBegin, rightEnd);
            int end = commonEnd(leftBegin + begin, leftEnd, rightBegin + begin, rightEnd);
            int conflictRow = row;
            if (begin > 0) {
                setKind(row, FROM_BOTH);
                chunkTable.put(row, 2, baseBegin);
                chunkTable.put(row, 4, leftBegin + begin);
                chunkTable.put(row, 6, rightBegin + begin);
                conflictRow = addPart(baseBegin, baseEnd, leftBegin + begin, leftEnd, rightBegin + begin, rightEnd);
                setKind(conflictRow, CONFLICT);
            }
            conflictRows.push(conflictRow);
            if (end > 0) {
                chunkTable.put(conflictRow, 4, leftEnd - end);
                chunkTable.put(conflictRow, 6, rightEnd - end);
                setKind(addPart(baseEnd, baseEnd, leftEnd - end, leftEnd, rightEnd - end, rightEnd), FROM_BOTH);
            }
        }

        private int commonBegin(int leftBegin, int leftEnd, int rightBegin, int rightEnd) {
            int most = Math.min(leftEnd - leftBegin, rightEnd - rightBegin);
            int same = 0;
            while (same < most && left.at(leftBegin + same) == right.at(rightBegin + same)) {
                same++;
            }
            return same;
        }

        private int commonEnd(int leftBegin, int leftEnd, int rightBegin, int rightEnd) {
            int most = Math.min(leftEnd - leftBegin, rightEnd - rightBegin);
            int same = 0;
            while (same < most && left.at(leftEnd - 1 - same) == right.at(rightEnd - 1 - same)) {
                same++;
            }
            return same;
        }

        int openConflicts() {
            int open = 0;
            for (int i = 0; i < conflictRows.size(); i++) {
                if (chunkTable.at(conflictRows.at(i), CHOICE) == NONE) {
                    open++;
                }
            }
            return open;
        }

        int choose(int conflict, int choice) {
            int row = conflictRows.at(conflict);
            chunkTable.put(row, CHOICE, choice);
            writeResult();
            return chosenLength(row, choice);
        }

        private int chosenLength(int row, int choice) {
            int leftLength = chunkTable.at(row, 4) - chunkTable.at(row, 3);
            int rightLength = chunkTable.at(row, 6) - chunkTable.at(row, 5);
            if (choice == CHOICE_LEFT) {
                return leftLength;
            }
            if (choice == CHOICE_RIGHT) {
                return rightLength;
            }
            return choice == CHOICE_BASE
                    ? chunkTable.at(row, 2) - chunkTable.at(row, 1)
                    : leftLength + rightLength;
        }

        private void writeResult() {
            result.clear();
            for (int row = 0; row < chunkTable.rows(); row++) {
                int kind = chunkTable.at(row, 0);
                if (kind == CONFLICT) {
                    writeConflict(row, chunkTable.at(row, CHOICE));
                } else if (kind == FROM_RIGHT) {
                    writeRight(row);
                } else {
                    writeLeft(row);
                }
            }
        }

        private void writeConflict(int row, int choice) {
            switch (choice) {
                case CHOICE_LEFT:
                    writeLeft(row);
                    break;
                case CHOICE_RIGHT:
                    writeRight(row);
                    break;
                case CHOICE_LEFT_RIGHT:
                    writeLeft(row);
                    writeRight(row);
                    break;
                case CHOICE_RIGHT_LEFT:
                    writeRight(row);
                    writeLeft(row);
                    break;
                case CHOICE_BASE:
                    result.pushPart(base, chunkTable.at(row, 1), chunkTable.at(row, 2));
                    break;
                default:
                    result.push(MARK_LEFT);
                    writeLeft(row);
                    result.push(MARK_RIGHT);
                    writeRight(row);
                    result.push(MARK_END);
                    break;
            }
        }

        private void writeLeft(int row) {
            result.pushPart(left, chunkTable.at(row, 3), chunkTable.at(row, 4));
        }

        private void writeRight(int row) {
            result.pushPart(right, chunkTable.at(row, 5), chunkTable.at(row, 6));
        }
    }

    /** The patch that is kept, with its own copies of the documents from which it was made. */
    private static final class Patch {
        private final Lines first = new Lines(MOST_LINES);
        private final Lines second = new Lines(MOST_LINES);
        private final Table hunkTable = new Table(MOST_LINES + 1, 6);
        private final Table trials = new Table(MOST_LINES + 1, 2);
        private final Table kept = new Table(MOST_LINES + 1, 2);
        private final Lines result = new Lines(4 * MOST_LINES);
        private int shift;
        private int replacedEnd;
        private boolean made;

        boolean exists() {
            return made;
        }

        Table parts() {
            return hunkTable;
        }

        Table outcomes() {
            return kept;
        }

        int make(Comparison comparison, int context) {
            first.become(comparison.first());
            second.become(comparison.second());
            hunkTable.clear();
            kept.clear();
            made = true;
            Table differences = comparison.parts();
            int begin = 0;
            for (int i = 0; i < differences.rows(); i++) {
                if (isLastOfHunk(differences, i, context)) {
                    addHunk(differences, begin, i, context);
                    begin = i + 1;
                }
            }
            return hunkTable.rows();
        }

        private static boolean isLastOfHunk(Table differences, int index, int context) {
            return !differences.hasRow(index + 1)
                    || differences.at(index + 1, 0) - differences.at(index, 1) > 2 * context;
        }

        private void addHunk(Table differences, int from, int to, int context) {
            int aBegin = differences.at(from, 0);
            int aEnd = differences.at(to, 1);
            int bBegin = differences.at(from, 2);
            int bEnd = differences.at(to, 3);
            int leading = Math.min(context, aBegin);
            int trailing = Math.min(context, first.size() - aEnd);
            int row = hunkTable.addRow();
            hunkTable.put(row, OLD_POSITION, aBegin - leading);
            hunkTable.put(row, OLD_POSITION + 1, leading + aEnd - aBegin + trailing);
            hunkTable.put(row, NEW_POSITION, bBegin - leading);
            hunkTable.put(row, NEW_POSITION + 1, leading + bEnd - bBegin + trailing);
            hunkTable.put(row, LEADING, leading);
            hunkTable.put(row, TRAILING, trailing);
        }

        /** Returns the document that the patch makes of the target, which stays as it is. */
        Lines attempt(Lines target, int fuzz, boolean reversed) {
            shift = 0;
            replacedEnd = 0;
            trials.clear();
            result.clear();
            for (int hunk = 0; hunk < hunkTable.rows(); hunk++) {
                attemptHunk(target, hunk, fuzz, reversed);
            }
            result.pushPart(target, replacedEnd, target.size());
            return result;
        }

        private void attemptHunk(Lines target, int hunk, int fuzz, boolean reversed) {
            Lines old = reversed ? second : first;
            int position = reversed ? NEW_POSITION : OLD_POSITION;
            for (int f = 0; f <= fuzz; f++) {
                int begin = partBegin(hunk, position, f);
                int end = partEnd(hunk, position, f);
                int found = findFit(target, old, begin, end);
                if (found != NONE) {
                    result.pushPart(target, replacedEnd, found);
                    pushNewPart(hunk, f, reversed);
                    shift = found - begin;
                    replacedEnd = found + end - begin;
                    trials.addPair(found, f);
                    return;
                }
            }
            trials.addPair(NONE, NONE);
        }

        private void pushNewPart(int hunk, int fuzz, boolean reversed) {
            Lines fresh = reversed ? first : second;
            int position = reversed ? OLD_POSITION : NEW_POSITION;
            result.pushPart(fresh, partBegin(hunk, position, fuzz), partEnd(hunk, position, fuzz));
        }

        private int partBegin(int hunk, int position, int fuzz) {
            return hunkTable.at(hunk, position) + Math.min(fuzz, hunkTable.at(hunk, LEADING));
        }

        private int partEnd(int hunk, int position, int fuzz) {
            int end = hunkTable.at(hunk, position) + hunkTable.at(hunk, position + 1);
            return end - Math.min(fuzz, hunkTable.at(hunk, TRAILING));
        }

        private int findFit(Lines target, Lines old, int begin, int end) {
            int expected = begin + shift;
            for (int distance = 0; distance <= FARTHEST; distance++) {
                if (fits(target, expected + distance, old, begin, end)) {
                    return expected + distance;
                }
                if (fits(target, expected - distance, old, begin, end)) {
                    return expected - distance;
                }
            }
            return NONE;
        }

        private boolean fits(Lines target, int position, Lines old, int begin, int end) {
            int behind = position + end - begin;
            return position >= replacedEnd && behind <= target.size()
                    && target.samePart(position, behind, old, begin, end);
        }

        /** Makes the latest attempt the one that is told of, and returns how many hunks it applied. */
        int keepOutcomes() {
            kept.clear();
            int applied = 0;
            for (int hunk = 0; hunk < trials.rows(); hunk++) {
                kept.addPair(trials.at(hunk, 0), trials.at(hunk, 1));
                if (trials.at(hunk, 0) != NONE) {
                    applied++;
                }
            }
            return applied;
        }
    }
}
