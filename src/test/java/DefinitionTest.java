import java.util.ArrayList;
import java.util.List;

/**
 * Promises 9 and 13 to 21 for all documents of few lines, and some longer ones, beside the definitions taken word by
 * word: every alignment is listed, and the one that the document tells is chosen of them.
 */
public final class DefinitionTest {
    private record Pair(int i, int j) {
    }

    private record Move(int i, int j, int size) {
    }

    private DefinitionTest() {
    }

    public static void main(String[] args) {
        List<String> short3 = Told.documents("abc", 4);
        for (String a : short3) {
            for (String b : short3) {
                look(a, b);
            }
        }
        List<String> orders = orders("abcdef");
        for (String order : orders) {
            look("abcdef", order);
            look("abxcdexf", order);
            look(order, "xabcxdef");
        }
        for (String a : Told.documents("ab", 6)) {
            look(a, "abbaab");
            look("babab", a);
        }
        Check.end();
    }

    // ---- documents

    /** All orders of these lines. */
    private static List<String> orders(String letters) {
        if (letters.isEmpty()) {
            return List.of("");
        }
        List<String> all = new ArrayList<>();
        for (int k = 0; k < letters.length(); k++) {
            for (String rest : orders(letters.substring(0, k) + letters.substring(k + 1))) {
                all.add(letters.charAt(k) + rest);
            }
        }
        return all;
    }

    // ---- the definitions

    /** All sequences of these pairs in which both the i and the j increase. */
    private static List<List<Pair>> sequences(List<Pair> possible) {
        List<List<Pair>> all = new ArrayList<>();
        all.add(List.of());
        for (Pair next : possible) {
            int size = all.size();
            for (int k = 0; k < size; k++) {
                List<Pair> before = all.get(k);
                Pair last = before.isEmpty() ? new Pair(-1, -1) : before.get(before.size() - 1);
                if (last.i < next.i && last.j < next.j) {
                    List<Pair> longer = new ArrayList<>(before);
                    longer.add(next);
                    all.add(longer);
                }
            }
        }
        return all;
    }

    /** The longest sequence; of several, the first one by its numbers: i1, j1, i2, j2 and so on, or the i alone. */
    private static List<Pair> chosen(List<List<Pair>> all, boolean byBoth) {
        List<Pair> best = List.of();
        for (List<Pair> one : all) {
            if (one.size() > best.size() || one.size() == best.size() && isBefore(one, best, byBoth)) {
                best = one;
            }
        }
        return best;
    }

    private static boolean isBefore(List<Pair> one, List<Pair> other, boolean byBoth) {
        for (int k = 0; k < one.size(); k++) {
            if (one.get(k).i != other.get(k).i) {
                return one.get(k).i < other.get(k).i;
            }
            if (byBoth && one.get(k).j != other.get(k).j) {
                return one.get(k).j < other.get(k).j;
            }
        }
        return false;
    }

    private static List<Pair> plain(String a, int aBegin, int aEnd, String b, int bBegin, int bEnd) {
        List<Pair> equal = new ArrayList<>();
        for (int i = aBegin; i < aEnd; i++) {
            for (int j = bBegin; j < bEnd; j++) {
                if (a.charAt(i) == b.charAt(j)) {
                    equal.add(new Pair(i, j));
                }
            }
        }
        return chosen(sequences(equal), true);
    }

    private static List<Pair> anchors(String a, String b) {
        List<Pair> candidates = new ArrayList<>();
        for (int i = 0; i < a.length(); i++) {
            char line = a.charAt(i);
            if (occursOnce(a, line) && occursOnce(b, line)) {
                candidates.add(new Pair(i, b.indexOf(line)));
            }
        }
        return chosen(sequences(candidates), false);
    }

    private static boolean occursOnce(String document, char line) {
        return document.indexOf(line) >= 0 && document.indexOf(line) == document.lastIndexOf(line);
    }

    private static List<Pair> anchored(String a, String b) {
        List<Pair> all = new ArrayList<>();
        int i = 0;
        int j = 0;
        for (Pair anchor : anchors(a, b)) {
            all.addAll(plain(a, i, anchor.i, b, j, anchor.j));
            all.add(anchor);
            i = anchor.i + 1;
            j = anchor.j + 1;
        }
        all.addAll(plain(a, i, a.length(), b, j, b.length()));
        return all;
    }

    private static List<Move> moves(String a, String b, List<Pair> pairs, int minimum) {
        StringBuilder leftA = new StringBuilder(a);
        StringBuilder leftB = new StringBuilder(b);
        for (Pair pair : pairs) {
            leftA.setCharAt(pair.i, '-');
            leftB.setCharAt(pair.j, '+');
        }
        List<Move> all = new ArrayList<>();
        Move next = longest(leftA, leftB);
        while (next.size >= minimum) {
            all.add(next);
            for (int k = 0; k < next.size; k++) {
                leftA.setCharAt(next.i + k, '-');
                leftB.setCharAt(next.j + k, '+');
            }
            next = longest(leftA, leftB);
        }
        return all;
    }

    private static Move longest(StringBuilder a, StringBuilder b) {
        for (int size = Math.min(a.length(), b.length()); size > 0; size--) {
            for (int i = 0; i + size <= a.length(); i++) {
                int j = b.indexOf(a.substring(i, i + size));
                if (j >= 0) {
                    return new Move(i, j, size);
                }
            }
        }
        return new Move(-1, -1, 0);
    }

    // ---- beside the workbench

    private static void look(String a, String b) {
        List<Pair> pairs = plain(a, 0, a.length(), b, 0, b.length());
        String call = "distance of " + a + " and " + b;
        Check.due(call, Check.with(a, b).distance(0, 1), a.length() + b.length() - 2 * pairs.size());
        lookAtComparison(0, a, b, pairs, 0);
        lookAtComparison(1, a, b, anchored(a, b), anchors(a, b).size());
    }

    private static void lookAtComparison(int mode, String a, String b, List<Pair> pairs, int anchors) {
        MergeWorkbench x = Check.with(a, b);
        x.setMode(mode);
        Check.about("mode " + mode + ", " + a + " and " + b + ": ");
        Check.due("compare", x.compare(0, 1), pairs.size());
        Check.due("anchors", x.anchors(), anchors);
        int[] partners = new int[a.length()];
        java.util.Arrays.fill(partners, -1);
        for (Pair pair : pairs) {
            partners[pair.i] = pair.j;
        }
        for (int i = 0; i < a.length(); i++) {
            Check.due("partner " + i, x.partner(i), partners[i]);
        }
        lookAtScript(x, a, b, pairs);
        lookAtMoves(x, 1, moves(a, b, pairs, 1));
        lookAtMoves(x, 2, moves(a, b, pairs, 2));
        Check.about("");
    }

    /** The steps and the differences, from one pair to the next. */
    private static void lookAtScript(MergeWorkbench x, String a, String b, List<Pair> pairs) {
        List<Pair> bounds = new ArrayList<>(pairs);
        bounds.add(new Pair(a.length(), b.length()));
        int i = 0;
        int j = 0;
        int steps = 0;
        StringBuilder differences = new StringBuilder();
        for (Pair bound : bounds) {
            if (i < bound.i || j < bound.j) {
                differences.append(i + "," + bound.i + "," + j + "," + bound.j + " ");
            }
            while (i < bound.i) {
                Check.due("step " + steps, x.step(steps++), 100 + a.charAt(i++) - 'a');
            }
            while (j < bound.j) {
                Check.due("step " + steps, x.step(steps++), 200 + b.charAt(j++) - 'a');
            }
            if (i < a.length()) {
                Check.due("step " + steps, x.step(steps++), a.charAt(i) - 'a');
            }
            i++;
            j++;
        }
        int behind = steps;
        Check.dueThrows("the step behind", java.util.NoSuchElementException.class, () -> x.step(behind));
        Check.due("differences", Told.differences(x), differences.toString().trim());
    }

    private static void lookAtMoves(MergeWorkbench x, int minimum, List<Move> due) {
        StringBuilder all = new StringBuilder();
        for (Move move : due) {
            all.append(move.i + "," + move.j + "," + move.size + " ");
        }
        Check.due("findMoves " + minimum, x.findMoves(minimum), due.size());
        Check.due("moves of " + minimum, Told.moves(x, due.size()), all.toString().trim());
        Check.dueThrows("the move behind", IndexOutOfBoundsException.class, () -> x.move(due.size(), 0));
    }
}
