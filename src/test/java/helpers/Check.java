/** Compares answers with those that are due, prints each that is not, and ends with exit code 1 if there was one. */
final class Check {
    interface Call {
        Object answer();
    }

    private static int wrong = 0;
    private static int made = 0;
    private static String subject = "";

    private Check() {
    }

    static void due(String call, Object got, Object want) {
        made++;
        if (!want.equals(got)) {
            wrong++;
            System.out.println(subject + call + " answered " + got + ", due is " + want);
        }
    }

    /** The class must be the very one: a subclass of it would be an exception of the machine's own. */
    static void dueThrows(String call, Class<? extends RuntimeException> want, Call made) {
        Object got;
        try {
            got = made.answer();
        } catch (RuntimeException e) {
            got = e.getClass();
        }
        due(call, got, want);
    }

    /** What is printed before each answer that is not due. */
    static void about(String text) {
        subject = text;
    }

    static int looked() {
        return made;
    }

    /** The call throws the exception, and the workbench is as it was before. */
    static void dueRefused(String call, Class<? extends RuntimeException> want, State.Maker before, State.Use use) {
        dueChanged(call, want, before, use, before);
    }

    /** The call throws the exception, and what it leaves is like the other workbench. */
    static void dueChanged(String call, Class<? extends RuntimeException> want, State.Maker before, State.Use use,
            State.Maker after) {
        MergeWorkbench x = before.make();
        dueThrows(call, want, () -> use.on(x));
        due("the state after " + call, State.of(() -> refused(before.make(), use)), State.of(after));
    }

    private static MergeWorkbench refused(MergeWorkbench x, State.Use use) {
        try {
            use.on(x);
        } catch (RuntimeException e) {
            return x;
        }
        return x;
    }

    static void end() {
        System.out.println(wrong == 0 ? made + " answers are as due" : wrong + " answers are not as due");
        System.exit(wrong == 0 ? 0 : 1);
    }

    // ---- what most tests do with a workbench

    static void feed(MergeWorkbench x, String text) {
        for (char character : text.toCharArray()) {
            x.feed(character);
        }
    }

    static int read(MergeWorkbench x, int register, String text) {
        feed(x, text);
        return x.readDocument(register);
    }

    static MergeWorkbench with(String... documents) {
        MergeWorkbench x = new MergeWorkbench();
        for (int register = 0; register < documents.length; register++) {
            read(x, register, documents[register]);
        }
        return x;
    }

    static String text(MergeWorkbench x, int register) {
        StringBuilder letters = new StringBuilder();
        for (int position = 0; position < x.length(register); position++) {
            letters.append((char) ('a' + x.line(register, position)));
        }
        return letters.toString();
    }
}
