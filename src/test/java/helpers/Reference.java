import java.util.ArrayDeque;
import java.util.ArrayList;
import java.util.Arrays;
import java.util.Deque;
import java.util.List;
import java.util.NoSuchElementException;
import java.util.regex.Pattern;

/**
 * The document's promises once more, over the library's lists and by comparing whole sequences, so that it has no
 * step in common with the class. Slow, and only for tests.
 */
public final class Reference {
    private record Pair(int i, int j) {
    }

    private record Change(int register, List<Integer> before) {
    }

    private record Hunk(int oldBegin, int oldEnd, int newBegin, int newEnd, int leading, int trailing) {
    }

    private record Chunk(int kind, int bFrom, int bTo, int lFrom, int lTo, int rFrom, int rTo) {
        int get(int what) {
            return new int[] {kind, bFrom, bTo, lFrom, lTo, rFrom, rTo}[what];
        }
    }

    private final List<List<Integer>> documents = new ArrayList<>();
    private final Deque<Change> changes = new ArrayDeque<>();
    private String input = "";
    private int mode = 0;
    private boolean shrinking = true;
    private List<List<Integer>> saved = null;
    private int savedMode = 0;

    private List<Integer> a = null;
    private List<Integer> b = null;
    private List<Pair> pairs = null;
    private int anchorCount = 0;
    private List<int[]> moves = new ArrayList<>();

    private List<Integer> base = null;
    private List<Integer> left = null;
    private List<Integer> right = null;
    private List<Chunk> chunks = null;
    private List<Integer> choices = null;

    private List<Hunk> hunks = null;
    private List<Integer> patchA = null;
    private List<Integer> patchB = null;
    private List<int[]> outcomes = null;

    public Reference() {
        for (int i = 0; i < 4; i++) {
            documents.add(List.of());
        }
    }

    private static void refuse(boolean if_, RuntimeException with) {
        if (if_) {
            throw with;
        }
    }

    private List<Integer> doc(int register) {
        refuse(register < 0 || register > 3, new IllegalArgumentException());
        return documents.get(register);
    }

    private void change(int register, List<Integer> wanted) {
        changes.addLast(new Change(register, documents.get(register)));
        if (changes.size() > 8) {
            changes.removeFirst();
        }
        documents.set(register, List.copyOf(wanted));
    }

    // ---- documents

    public int append(int register, int line) {
        List<Integer> document = new ArrayList<>(doc(register));
        refuse(line < 0 || line > 25, new IllegalArgumentException());
        refuse(document.size() == 24, new IllegalStateException());
        document.add(line);
        change(register, document);
        return document.size();
    }

    public int insert(int register, int position, int line) {
        List<Integer> document = new ArrayList<>(doc(register));
        refuse(line < 0 || line > 25, new IllegalArgumentException());
        refuse(document.size() == 24, new IllegalStateException());
        refuse(position < 0 || position > document.size(), new IndexOutOfBoundsException());
        document.add(position, line);
        change(register, document);
        return document.size();
    }

    public int delete(int register, int position) {
        List<Integer> document = new ArrayList<>(doc(register));
        refuse(position < 0 || position >= document.size(), new IndexOutOfBoundsException());
        int line = document.remove(position);
        change(register, document);
        return line;
    }

    public int length(int register) {
        return doc(register).size();
    }

    public int line(int register, int position) {
        List<Integer> document = doc(register);
        refuse(position < 0 || position >= document.size(), new IndexOutOfBoundsException());
        return document.get(position);
    }

    public int copy(int from, int to) {
        List<Integer> document = doc(from);
        doc(to);
        change(to, document);
        return document.size();
    }

    public boolean isSame(int one, int other) {
        return doc(one).equals(doc(other));
    }

    public int distance(int one, int other) {
        List<Integer> x = doc(one);
        List<Integer> y = doc(other);
        // The table of the edit distance, with deletions and insertions alone.
        int[][] least = new int[x.size() + 1][y.size() + 1];
        for (int i = 0; i <= x.size(); i++) {
            for (int j = 0; j <= y.size(); j++) {
                int best = i + j;
                if (i > 0) {
                    best = Math.min(best, least[i - 1][j] + 1);
                }
                if (j > 0) {
                    best = Math.min(best, least[i][j - 1] + 1);
                }
                if (i > 0 && j > 0 && x.get(i - 1).equals(y.get(j - 1))) {
                    best = Math.min(best, least[i - 1][j - 1]);
                }
                least[i][j] = best;
            }
        }
        return least[x.size()][y.size()];
    }

    public int feed(char character) {
        refuse(input.length() == 50, new IllegalStateException());
        input += character;
        return input.length();
    }

    private static final class Wrong extends Exception {
        private static final long serialVersionUID = 1;
        private final int position;

        Wrong(int position) {
            this.position = position;
        }
    }

    /** A parser by recursive descent; at[0] is the position. */
    private static List<Integer> items(String text, int[] at, int open) throws Wrong {
        List<Integer> all = new ArrayList<>();
        boolean any = false;
        while (at[0] < text.length()) {
            char c = text.charAt(at[0]);
            List<Integer> item;
            if (Pattern.matches("[a-z]", String.valueOf(c))) {
                item = List.of(c - 'a');
                at[0]++;
            } else if (c == '(' && open < 4) {
                at[0]++;
                item = items(text, at, open + 1);
            } else if (c == ')' && open > 0 && any) {
                at[0]++;
                return all;
            } else {
                throw new Wrong(at[0]);
            }
            any = true;
            int times = 1;
            if (at[0] < text.length() && "23456789".indexOf(text.charAt(at[0])) >= 0) {
                times = text.charAt(at[0]) - '0';
                at[0]++;
            }
            for (int i = 0; i < times; i++) {
                // What is far too long stays too long when it is cut.
                all.addAll(item.subList(0, Math.min(item.size(), 25)));
            }
        }
        if (open > 0) {
            throw new Wrong(text.length());
        }
        return all;
    }

    public int readDocument(int register) {
        String text = input;
        input = "";
        doc(register);
        try {
            List<Integer> document = items(text, new int[1], 0);
            refuse(document.size() > 24, new IllegalStateException());
            change(register, document);
            return document.size();
        } catch (Wrong e) {
            return -100 - e.position;
        }
    }

    // ---- comparison

    public int setMode(int newMode) {
        refuse(newMode < 0 || newMode > 1, new IllegalArgumentException());
        int old = mode;
        mode = newMode;
        return old;
    }

    private static boolean comesFirst(List<Pair> x, List<Pair> y) {
        if (x.size() != y.size()) {
            return x.size() > y.size();
        }
        for (int k = 0; k < x.size(); k++) {
            if (x.get(k).i != y.get(k).i) {
                return x.get(k).i < y.get(k).i;
            }
            if (x.get(k).j != y.get(k).j) {
                return x.get(k).j < y.get(k).j;
            }
        }
        return false;
    }

    private static List<Pair> with(Pair first, List<Pair> rest) {
        List<Pair> all = new ArrayList<>();
        all.add(first);
        all.addAll(rest);
        return all;
    }

    /** The best sequence of the pairs that are possible, by comparing all best continuations. */
    private static List<Pair> bestOf(boolean[][] possible, int iFrom, int iTo, int jFrom, int jTo) {
        int n = iTo - iFrom;
        int m = jTo - jFrom;
        List<List<List<Pair>>> best = new ArrayList<>();
        for (int i = 0; i <= n; i++) {
            best.add(new ArrayList<>());
            for (int j = 0; j <= m; j++) {
                best.get(i).add(List.of());
            }
        }
        for (int i = n - 1; i >= 0; i--) {
            for (int j = m - 1; j >= 0; j--) {
                List<Pair> found = best.get(i + 1).get(j);
                List<Pair> skip = best.get(i).get(j + 1);
                if (comesFirst(skip, found)) {
                    found = skip;
                }
                if (possible[iFrom + i][jFrom + j]) {
                    List<Pair> taken = with(new Pair(iFrom + i, jFrom + j), best.get(i + 1).get(j + 1));
                    if (comesFirst(taken, found)) {
                        found = taken;
                    }
                }
                best.get(i).set(j, found);
            }
        }
        return best.get(0).get(0);
    }

    private static boolean[][] equalLines(List<Integer> x, List<Integer> y) {
        boolean[][] possible = new boolean[x.size()][y.size()];
        for (int i = 0; i < x.size(); i++) {
            for (int j = 0; j < y.size(); j++) {
                possible[i][j] = x.get(i).equals(y.get(j));
            }
        }
        return possible;
    }

    private static List<Pair> anchorsOf(List<Integer> x, List<Integer> y) {
        boolean[][] possible = equalLines(x, y);
        for (int i = 0; i < x.size(); i++) {
            for (int j = 0; j < y.size(); j++) {
                Integer line = x.get(i);
                possible[i][j] &= x.stream().filter(line::equals).count() == 1
                        && y.stream().filter(line::equals).count() == 1;
            }
        }
        return bestOf(possible, 0, x.size(), 0, y.size());
    }

    private static List<Pair> align(List<Integer> x, List<Integer> y, List<Pair> anchors) {
        boolean[][] possible = equalLines(x, y);
        List<Pair> all = new ArrayList<>();
        int i = 0;
        int j = 0;
        for (Pair anchor : anchors) {
            all.addAll(bestOf(possible, i, anchor.i, j, anchor.j));
            all.add(anchor);
            i = anchor.i + 1;
            j = anchor.j + 1;
        }
        all.addAll(bestOf(possible, i, x.size(), j, y.size()));
        return all;
    }

    public int compare(int one, int other) {
        List<Integer> x = doc(one);
        List<Integer> y = doc(other);
        a = x;
        b = y;
        List<Pair> anchors = mode == 1 ? anchorsOf(a, b) : List.of();
        anchorCount = anchors.size();
        pairs = align(a, b, anchors);
        moves = new ArrayList<>();
        return pairs.size();
    }

    public int partner(int position) {
        refuse(a == null, new IllegalStateException());
        refuse(position < 0 || position >= a.size(), new IndexOutOfBoundsException());
        return pairs.stream().filter(pair -> pair.i == position).mapToInt(Pair::j).findFirst().orElse(-1);
    }

    public int anchors() {
        refuse(a == null, new IllegalStateException());
        return anchorCount;
    }

    private List<int[]> differenceList() {
        List<Pair> bounds = new ArrayList<>();
        bounds.add(new Pair(-1, -1));
        bounds.addAll(pairs);
        bounds.add(new Pair(a.size(), b.size()));
        List<int[]> all = new ArrayList<>();
        for (int k = 0; k + 1 < bounds.size(); k++) {
            Pair from = bounds.get(k);
            Pair to = bounds.get(k + 1);
            if (from.i + 1 < to.i || from.j + 1 < to.j) {
                all.add(new int[] {from.i + 1, to.i, from.j + 1, to.j});
            }
        }
        return all;
    }

    public int differences() {
        refuse(a == null, new IllegalStateException());
        return differenceList().size();
    }

    public int difference(int index, int what) {
        refuse(a == null, new IllegalStateException());
        refuse(index < 0 || index >= differenceList().size(), new IndexOutOfBoundsException());
        refuse(what < 0 || what > 3, new IllegalArgumentException());
        return differenceList().get(index)[what];
    }

    public int step(int index) {
        refuse(a == null, new IllegalStateException());
        List<Integer> script = new ArrayList<>();
        int i = 0;
        int j = 0;
        while (i < a.size() || j < b.size()) {
            Pair here = new Pair(i, j);
            int at = i;
            if (pairs.contains(here)) {
                script.add(a.get(i));
                i++;
                j++;
            } else if (i < a.size() && pairs.stream().noneMatch(pair -> pair.i == at)) {
                script.add(100 + a.get(i));
                i++;
            } else {
                script.add(200 + b.get(j));
                j++;
            }
        }
        refuse(index < 0 || index >= script.size(), new NoSuchElementException());
        return script.get(index);
    }

    public double similarity() {
        refuse(a == null, new IllegalStateException());
        refuse(a.isEmpty() && b.isEmpty(), new ArithmeticException());
        return 2.0 * pairs.size() / (a.size() + b.size());
    }

    public int findMoves(int minimum) {
        refuse(minimum < 1 || minimum > 9, new IllegalArgumentException());
        refuse(a == null, new IllegalStateException());
        boolean[] usedA = new boolean[a.size()];
        boolean[] usedB = new boolean[b.size()];
        for (Pair pair : pairs) {
            usedA[pair.i] = true;
            usedB[pair.j] = true;
        }
        moves = new ArrayList<>();
        for (int size = 24; size >= minimum; size--) {
            for (int i = 0; i + size <= a.size(); i++) {
                for (int j = 0; j + size <= b.size(); j++) {
                    if (a.subList(i, i + size).equals(b.subList(j, j + size))
                            && noneOf(usedA, i, size) && noneOf(usedB, j, size)) {
                        moves.add(new int[] {i, j, size});
                        Arrays.fill(usedA, i, i + size, true);
                        Arrays.fill(usedB, j, j + size, true);
                    }
                }
            }
        }
        return moves.size();
    }

    private static boolean noneOf(boolean[] used, int from, int size) {
        for (int k = from; k < from + size; k++) {
            if (used[k]) {
                return false;
            }
        }
        return true;
    }

    public int move(int index, int what) {
        refuse(index < 0 || index >= moves.size(), new IndexOutOfBoundsException());
        refuse(what < 0 || what > 2, new IllegalArgumentException());
        return moves.get(index)[what];
    }

    // ---- merges

    public boolean setShrinking(boolean on) {
        boolean was = shrinking;
        shrinking = on;
        return was;
    }

    public int merge(int baseRegister, int leftRegister, int rightRegister) {
        List<Integer> newBase = doc(baseRegister);
        List<Integer> newLeft = doc(leftRegister);
        List<Integer> newRight = doc(rightRegister);
        base = newBase;
        left = newLeft;
        right = newRight;
        List<Pair> toLeft = align(base, left, mode == 1 ? anchorsOf(base, left) : List.of());
        List<Pair> toRight = align(base, right, mode == 1 ? anchorsOf(base, right) : List.of());
        List<int[]> stable = new ArrayList<>();
        stable.add(new int[] {-1, -1, -1});
        for (Pair l : toLeft) {
            for (Pair r : toRight) {
                if (l.i == r.i) {
                    stable.add(new int[] {l.i, l.j, r.j});
                }
            }
        }
        stable.add(new int[] {base.size(), left.size(), right.size()});
        chunks = new ArrayList<>();
        int runBegin = 1;
        for (int k = 1; k < stable.size(); k++) {
            int[] from = stable.get(k - 1);
            int[] to = stable.get(k);
            boolean gap = from[0] + 1 < to[0] || from[1] + 1 < to[1] || from[2] + 1 < to[2];
            if (gap || k == stable.size() - 1) {
                if (runBegin < k) {
                    int[] first = stable.get(runBegin);
                    int[] last = stable.get(k - 1);
                    chunks.add(new Chunk(0, first[0], last[0] + 1, first[1], last[1] + 1, first[2], last[2] + 1));
                }
                runBegin = k;
            }
            if (gap) {
                addRegion(from[0] + 1, to[0], from[1] + 1, to[1], from[2] + 1, to[2]);
            }
        }
        choices = new ArrayList<>();
        for (Chunk chunk : chunks) {
            if (chunk.kind == 4) {
                choices.add(-1);
            }
        }
        return choices.size();
    }

    private void addRegion(int bFrom, int bTo, int lFrom, int lTo, int rFrom, int rTo) {
        List<Integer> bPart = base.subList(bFrom, bTo);
        List<Integer> lPart = left.subList(lFrom, lTo);
        List<Integer> rPart = right.subList(rFrom, rTo);
        int kind = lPart.equals(bPart) ? 2 : rPart.equals(bPart) ? 1 : lPart.equals(rPart) ? 3 : 4;
        int begin = 0;
        int end = 0;
        if (kind == 4 && shrinking) {
            int least = Math.min(lPart.size(), rPart.size());
            while (begin < least && lPart.subList(0, begin + 1).equals(rPart.subList(0, begin + 1))) {
                begin++;
            }
            while (begin + end < least && lPart.get(lPart.size() - end - 1).equals(rPart.get(rPart.size() - end - 1))) {
                end++;
            }
        }
        if (begin > 0) {
            chunks.add(new Chunk(3, bFrom, bFrom, lFrom, lFrom + begin, rFrom, rFrom + begin));
        }
        chunks.add(new Chunk(kind, bFrom, bTo, lFrom + begin, lTo - end, rFrom + begin, rTo - end));
        if (end > 0) {
            chunks.add(new Chunk(3, bTo, bTo, lTo - end, lTo, rTo - end, rTo));
        }
    }

    public int chunks() {
        refuse(chunks == null, new IllegalStateException());
        return chunks.size();
    }

    public int chunk(int index, int what) {
        refuse(chunks == null, new IllegalStateException());
        refuse(index < 0 || index >= chunks.size(), new IndexOutOfBoundsException());
        refuse(what < 0 || what > 6, new IllegalArgumentException());
        return chunks.get(index).get(what);
    }

    private List<Integer> result(Chunk chunk, int choice) {
        List<Integer> l = left.subList(chunk.lFrom, chunk.lTo);
        List<Integer> r = right.subList(chunk.rFrom, chunk.rTo);
        List<Integer> all = new ArrayList<>();
        if (chunk.kind == 2) {
            all.addAll(r);
        } else if (chunk.kind != 4) {
            all.addAll(l);
        } else if (choice == -1) {
            all.add(-1);
            all.addAll(l);
            all.add(-2);
            all.addAll(r);
            all.add(-3);
        } else if (choice == 4) {
            all.addAll(base.subList(chunk.bFrom, chunk.bTo));
        } else {
            all.addAll(choice == 1 || choice == 3 ? r : l);
            if (choice >= 2) {
                all.addAll(choice == 2 ? r : l);
            }
        }
        return all;
    }

    private List<Integer> mergedList() {
        List<Integer> all = new ArrayList<>();
        int conflict = 0;
        for (Chunk chunk : chunks) {
            all.addAll(result(chunk, chunk.kind == 4 ? choices.get(conflict++) : -1));
        }
        return all;
    }

    public int resolve(int conflict, int choice) {
        refuse(chunks == null, new IllegalStateException());
        refuse(conflict < 0 || conflict >= choices.size(), new NoSuchElementException());
        refuse(choice < 0 || choice > 4, new IllegalArgumentException());
        choices.set(conflict, choice);
        return result(chunks.stream().filter(chunk -> chunk.kind == 4).toList().get(conflict), choice).size();
    }

    public int unresolved() {
        refuse(chunks == null, new IllegalStateException());
        return (int) choices.stream().filter(choice -> choice == -1).count();
    }

    public int mergedLength() {
        refuse(chunks == null, new IllegalStateException());
        return mergedList().size();
    }

    public int merged(int index) {
        refuse(chunks == null, new IllegalStateException());
        refuse(index < 0 || index >= mergedList().size(), new IndexOutOfBoundsException());
        return mergedList().get(index);
    }

    public int accept(int register) {
        doc(register);
        refuse(chunks == null || choices.contains(-1), new IllegalStateException());
        refuse(mergedList().size() > 24, new UnsupportedOperationException());
        change(register, mergedList());
        return length(register);
    }

    // ---- patches

    public int makePatch(int context) {
        refuse(context < 0 || context > 3, new IllegalArgumentException());
        refuse(a == null, new IllegalStateException());
        hunks = new ArrayList<>();
        outcomes = null;
        patchA = a;
        patchB = b;
        List<int[]> group = new ArrayList<>();
        for (int[] next : differenceList()) {
            if (!group.isEmpty() && next[0] - group.get(group.size() - 1)[1] > 2 * context) {
                addHunk(group, context);
                group.clear();
            }
            group.add(next);
        }
        if (!group.isEmpty()) {
            addHunk(group, context);
        }
        return hunks.size();
    }

    private void addHunk(List<int[]> group, int context) {
        int[] first = group.get(0);
        int[] last = group.get(group.size() - 1);
        int leading = Math.min(context, first[0]);
        int trailing = Math.min(context, a.size() - last[1]);
        hunks.add(new Hunk(first[0] - leading, last[1] + trailing, first[2] - leading, last[3] + trailing,
                leading, trailing));
    }

    public int hunk(int index, int what) {
        refuse(hunks == null, new IllegalStateException());
        refuse(index < 0 || index >= hunks.size(), new IndexOutOfBoundsException());
        refuse(what < 0 || what > 5, new IllegalArgumentException());
        Hunk h = hunks.get(index);
        return new int[] {h.oldBegin, h.oldEnd - h.oldBegin, h.newBegin, h.newEnd - h.newBegin,
                h.leading, h.trailing}[what];
    }

    public int apply(int register, int fuzz, boolean reversed) {
        List<Integer> t = doc(register);
        refuse(fuzz < 0 || fuzz > 2, new IllegalArgumentException());
        refuse(hunks == null, new IllegalStateException());
        List<Integer> oldDoc = reversed ? patchB : patchA;
        List<Integer> newDoc = reversed ? patchA : patchB;
        List<int[]> found = new ArrayList<>();
        List<Integer> result = new ArrayList<>(t);
        int grown = 0;
        int shift = 0;
        int end = 0;
        int applied = 0;
        for (Hunk h : hunks) {
            int[] outcome = {-1, -1};
            for (int f = 0; f <= fuzz && outcome[0] < 0; f++) {
                int cutBefore = Math.min(f, h.leading);
                int cutBehind = Math.min(f, h.trailing);
                int from = (reversed ? h.newBegin : h.oldBegin) + cutBefore;
                List<Integer> oldPart = oldDoc.subList(from, (reversed ? h.newEnd : h.oldEnd) - cutBehind);
                List<Integer> newPart = newDoc.subList((reversed ? h.oldBegin : h.newBegin) + cutBefore,
                        (reversed ? h.oldEnd : h.newEnd) - cutBehind);
                int position = position(t, oldPart, from + shift, end);
                if (position >= 0) {
                    outcome = new int[] {position, f};
                    shift = position - from;
                    end = position + oldPart.size();
                    result.subList(position + grown, end + grown).clear();
                    result.addAll(position + grown, newPart);
                    grown += newPart.size() - oldPart.size();
                    applied++;
                }
            }
            found.add(outcome);
        }
        refuse(result.size() > 24, new UnsupportedOperationException());
        outcomes = found;
        change(register, result);
        return applied;
    }

    private static int position(List<Integer> t, List<Integer> part, int expected, int end) {
        List<Integer> tried = new ArrayList<>(List.of(expected));
        for (int distance = 1; distance <= 10; distance++) {
            tried.add(expected + distance);
            tried.add(expected - distance);
        }
        for (int position : tried) {
            if (position >= end && position + part.size() <= t.size()
                    && t.subList(position, position + part.size()).equals(part)) {
                return position;
            }
        }
        return -1;
    }

    public int outcome(int index, int what) {
        refuse(outcomes == null || index < 0 || index >= outcomes.size(), new NoSuchElementException());
        refuse(what < 0 || what > 1, new IllegalArgumentException());
        return outcomes.get(index)[what];
    }

    // ---- undo and snapshot

    public int undo() {
        refuse(changes.isEmpty(), new IllegalStateException());
        Change change = changes.removeLast();
        documents.set(change.register, change.before);
        return change.register;
    }

    public int save() {
        saved = List.copyOf(documents);
        savedMode = mode;
        return saved.stream().mapToInt(List::size).sum();
    }

    public int restore() {
        refuse(saved == null, new IllegalStateException());
        for (int i = 0; i < 4; i++) {
            documents.set(i, saved.get(i));
        }
        mode = savedMode;
        changes.clear();
        return documents.stream().mapToInt(List::size).sum();
    }
}
