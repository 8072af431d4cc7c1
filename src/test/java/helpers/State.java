/**
 * All that can be asked of a workbench, told as a text. Asking for some of it changes the workbench, so each part is
 * asked of one of its own, made by the same calls.
 */
final class State {
    interface Maker {
        MergeWorkbench make();
    }

    interface Use {
        Object on(MergeWorkbench x);
    }

    private State() {
    }

    /** Two workbenches of which this is the same answer every call alike. */
    static String of(Maker maker) {
        return documents(maker.make()) + comparison(maker.make()) + moves(maker.make()) + chunks(maker.make())
                + merged(maker.make()) + patch(maker.make()) + options(maker.make()) + input(maker.make())
                + undone(maker.make()) + restored(maker.make());
    }

    // ---- workbenches to begin with

    /** Documents, a comparison with a move, a merge with an open conflict, a patch with outcomes, and all the rest. */
    static MergeWorkbench worked() {
        MergeWorkbench x = Check.with("abcdefgh", "defabcgx", "abcqefgy", "pq");
        x.setMode(1);
        x.save();
        x.append(3, 17);
        x.append(2, 18);
        x.undo();
        x.setShrinking(false);
        x.compare(0, 1);
        x.findMoves(2);
        x.merge(0, 1, 2);
        x.resolve(0, 3);
        x.makePatch(1);
        x.apply(0, 2, false);
        return x;
    }

    /** The same, with all conflicts resolved. */
    static MergeWorkbench settled() {
        MergeWorkbench x = worked();
        x.resolve(1, 2);
        return x;
    }

    /** The same, with a part of an input. */
    static MergeWorkbench feeding() {
        MergeWorkbench x = settled();
        Check.feed(x, "ab2");
        return x;
    }

    /** Four documents of 24 lines. */
    static MergeWorkbench full() {
        return Check.with("(abcdefgh)3", "(ijklmnop)3", "(abcdijkl)3", "z9z9z6");
    }

    // ---- its parts

    private static String asked(String name, MergeWorkbench x, Use use) {
        return name + "=" + answered(x, use) + " ";
    }

    private static String answered(MergeWorkbench x, Use use) {
        try {
            return String.valueOf(use.on(x));
        } catch (RuntimeException e) {
            return e.getClass().getSimpleName();
        }
    }

    private static boolean isAnswered(MergeWorkbench x, Use use) {
        String answer = answered(x, use);
        return answer.startsWith("-") || Character.isDigit(answer.charAt(0));
    }

    private interface Indexed {
        Object on(MergeWorkbench x, int index);
    }

    private interface Celled {
        Object on(MergeWorkbench x, int index, int what);
    }

    /** The answers for 0, 1 and so on, up to the first exception. */
    private static String row(String name, MergeWorkbench x, Indexed use) {
        StringBuilder all = new StringBuilder(name).append(':');
        for (int index = 0; index < 200; index++) {
            int now = index;
            String answer = answered(x, y -> use.on(y, now));
            all.append(answer).append(' ');
            if (Character.isLetter(answer.charAt(0))) {
                break;
            }
        }
        return all.toString();
    }

    private static String table(String name, MergeWorkbench x, int columns, Celled use) {
        StringBuilder all = new StringBuilder();
        boolean goesOn = true;
        for (int index = 0; goesOn && index < 200; index++) {
            int now = index;
            all.append(asked(name + index, x, y -> use.on(y, now, 0)));
            goesOn = isAnswered(x, y -> use.on(y, now, 0));
            for (int what = 1; goesOn && what < columns; what++) {
                int then = what;
                all.append(answered(x, y -> use.on(y, now, then))).append(' ');
            }
        }
        return all.toString();
    }

    static String documents(MergeWorkbench x) {
        return Check.text(x, 0) + "," + Check.text(x, 1) + "," + Check.text(x, 2) + "," + Check.text(x, 3) + " ";
    }

    private static String comparison(MergeWorkbench x) {
        return row("partner", x, (y, index) -> y.partner(index)) + asked("anchors", x, y -> y.anchors())
                + asked("similarity", x, y -> y.similarity()) + row("step", x, (y, index) -> y.step(index))
                + asked("differences", x, y -> y.differences())
                + table("difference", x, 4, (y, index, what) -> y.difference(index, what));
    }

    private static String moves(MergeWorkbench x) {
        return table("move", x, 3, (y, index, what) -> y.move(index, what));
    }

    private static String chunks(MergeWorkbench x) {
        return asked("chunks", x, y -> y.chunks()) + table("chunk", x, 7, (y, index, what) -> y.chunk(index, what));
    }

    private static String merged(MergeWorkbench x) {
        return asked("unresolved", x, y -> y.unresolved()) + asked("mergedLength", x, y -> y.mergedLength())
                + row("merged", x, (y, index) -> y.merged(index)) + asked("accept", x, y -> y.accept(0))
                + documents(x);
    }

    private static String patch(MergeWorkbench x) {
        return table("hunk", x, 6, (y, index, what) -> y.hunk(index, what))
                + table("outcome", x, 2, (y, index, what) -> y.outcome(index, what));
    }

    private static String options(MergeWorkbench x) {
        return asked("mode", x, y -> y.setMode(0)) + asked("shrinking", x, y -> y.setShrinking(true));
    }

    private static String input(MergeWorkbench x) {
        return asked("read", x, y -> y.readDocument(0)) + Check.text(x, 0) + " " + asked("feed", x, y -> y.feed('a'));
    }

    private static String undone(MergeWorkbench x) {
        StringBuilder all = new StringBuilder();
        for (int i = 0; i < 20; i++) {
            String register = answered(x, y -> y.undo());
            all.append("undo=").append(register).append(' ');
            if (register.length() > 1) {
                break;
            }
            all.append(Check.text(x, Integer.parseInt(register))).append(' ');
        }
        return all + documents(x) + options(x);
    }

    private static String restored(MergeWorkbench x) {
        return asked("restore", x, y -> y.restore()) + documents(x) + options(x) + asked("undo", x, y -> y.undo());
    }
}
