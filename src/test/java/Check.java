/** What the tests share: texts written in one call, and answers compared with those that are due. */
final class Check {
    interface Call {
        void make();
    }

    private static int wrong = 0;
    private static String sentence = "";

    private Check() {
    }

    /** The document's words that the checks behind it are about. */
    static void sentence(String words) {
        sentence = words;
    }

    static void same(String what, long got, long due) {
        if (got != due) {
            complain(what + " answered " + got + ", due is " + due);
        }
    }

    private static void complain(String about) {
        wrong++;
        System.out.println((sentence.isEmpty() ? "" : "\"" + sentence + "\": ") + about);
    }

    static void holds(String what, boolean got) {
        same(what, got ? 1 : 0, 1);
    }

    static void fails(String what, Class<? extends RuntimeException> due, Call call) {
        Class<?> got = null;
        try {
            call.make();
        } catch (RuntimeException e) {
            got = e.getClass();
        }
        if (got != due) {
            complain(what + " threw " + got + ", due is " + due);
        }
    }

    static void write(StackForth forth, String text) {
        for (int from = 0; from < text.length(); from += 8) {
            int n = Math.min(8, text.length() - from);
            forth.write(packed(text.substring(from, from + n)), n);
        }
    }

    static long packed(String characters) {
        long eight = 0;
        for (int i = characters.length() - 1; i >= 0; i--) {
            eight = eight << 8 | characters.charAt(i);
        }
        return eight;
    }

    static int text(StackForth forth, String text) {
        write(forth, text);
        return forth.interpret();
    }

    static StackForth after(String... texts) {
        StackForth forth = new StackForth();
        for (String text : texts) {
            text(forth, text);
        }
        return forth;
    }

    /** The text must throw and leave both stacks empty, nothing compiled and nothing written. */
    static void textFails(StackForth forth, String text, Class<? extends RuntimeException> due) {
        write(forth, text);
        fails(text, due, forth::interpret);
        same(text + ": depth()", forth.depth(), 0);
        same(text + ": count(5)", forth.count(5), 0);
        holds(text + ": not compiling()", !forth.compiling());
        same(text + ": write", forth.write(' ', 1), 1);
    }

    /** The stack must be these numbers, the top one the last. */
    static void stack(String what, StackForth forth, int... due) {
        same(what + ": depth()", forth.depth(), due.length);
        for (int i = 0; i < Math.min(due.length, forth.depth()); i++) {
            same(what + ": top(" + i + ")", forth.top(i), due[due.length - 1 - i]);
        }
    }

    /** The counts 0, 1 and so on must be these. */
    static void counts(String what, StackForth forth, int... due) {
        for (int i = 0; i < due.length; i++) {
            same(what + ": count(" + i + ")", forth.count(i), due[i]);
        }
    }

    /** A new object on whose stack the numbers 1 to n are, n on top. */
    static StackForth withNumbers(int n) {
        StringBuilder text = new StringBuilder();
        for (int i = 1; i <= n; i++) {
            text.append(i).append(' ');
        }
        return after(text.toString());
    }

    /** A new object on whose return stack the numbers 1 to n are, n on top. */
    static StackForth withReturns(int n) {
        StackForth forth = new StackForth();
        for (int i = 1; i <= n; i++) {
            text(forth, i + " >R");
        }
        return forth;
    }

    /** What a text leaves on the stack of a new object. */
    static void gives(String text, int... due) {
        stack(text, after(text), due);
    }

    static void end(String test) {
        System.out.println(test + ": " + (wrong == 0 ? "all answers are as due" : wrong + " answers are wrong"));
        if (wrong != 0) {
            System.exit(1);
        }
    }
}
