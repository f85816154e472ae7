import java.util.NoSuchElementException;

/** The boundary cases that the promises 1 to 11 themselves name: what each call answers at its edges, and what stays. */
public final class CallEdgeTest {
    private static final Class<NoSuchElementException> UNKNOWN = NoSuchElementException.class;
    private static final Class<IllegalArgumentException> WRONG = IllegalArgumentException.class;
    private static final Class<IllegalStateException> REFUSED = IllegalStateException.class;
    private static final Class<ArithmeticException> DIVIDED = ArithmeticException.class;
    private static final Class<UnsupportedOperationException> STEPS = UnsupportedOperationException.class;
    private static final Class<IndexOutOfBoundsException> OUTSIDE = IndexOutOfBoundsException.class;
    private static final int[] FAR = {Integer.MIN_VALUE, Integer.MIN_VALUE + 1, -1000, -2, -1, 1000, 65536,
        Integer.MAX_VALUE - 1, Integer.MAX_VALUE};

    public static void main(String[] args) {
        aNewObject();
        writeHowMany();
        writeCharacters();
        writeBeyondTheEnd();
        writeLooksAtWhatIsWrittenFirst();
        anEmptyText();
        theTextIsGone();
        nothingIsSaidBefore();
        whatStaysWhenItThrows();
        whatIsEmptiedWhenItThrows();
        whatIsDroppedWhenItThrows();
        whatThrowsInADefinition();
        itGoesOnAfterThrowing();
        compiling();
        depth();
        top();
        cell();
        said();
        saying();
        definitionNumbers();
        definitionWhats();
        count();
        askingChangesNothing();
        lastCalls();
        Check.end("CallEdgeTest");
    }

    private static void aNewObject() {
        Check.sentence("Nothing is written, no definitions, empty stacks.");
        StackForth forth = new StackForth();
        Check.holds("compiling()", !forth.compiling());
        Check.same("depth()", forth.depth(), 0);
        Check.same("said()", forth.said(), 0);
        Check.counts("new", forth, 0, 0, 0, 0, 0, 0);
        Check.fails("top(0)", OUTSIDE, () -> forth.top(0));
        Check.fails("saying(0)", OUTSIDE, () -> forth.saying(0));
        Check.fails("definition(0, 0)", OUTSIDE, () -> forth.definition(0, 0));
        for (int k = 0; k < 64; k++) {
            Check.same("cell(" + k + ")", forth.cell(k), 0);
        }
        Check.same("write", forth.write(' ', 1), 1);
        Check.same("interpret()", forth.interpret(), 0);
        for (String word : "DROP R> R@ I . >R".split(" ")) {
            Check.textFails(new StackForth(), word, REFUSED);
        }
        Check.textFails(new StackForth(), "A", UNKNOWN);
    }

    private static void writeHowMany() {
        Check.sentence("IllegalArgumentException, when n is not 1 .. 8");
        StackForth forth = new StackForth();
        int length = 0;
        for (int n = -300; n <= 300; n++) {
            int many = n;
            if (n >= 1 && n <= 8) {
                length += n;
                Check.same("write(.., " + n + ")", forth.write(Check.packed("1 1 1 1 "), n), length);
            } else {
                Check.fails("write(.., " + n + ")", WRONG, () -> forth.write(Check.packed("1 1 1 1 "), many));
            }
        }
        for (int n : FAR) {
            Check.fails("write(.., " + n + ")", WRONG, () -> forth.write(Check.packed("1 1 1 1 "), n));
        }
        Check.same("what was refused did not come", forth.write(' ', 1), length + 1);
    }

    private static void writeCharacters() {
        Check.sentence("or one of them is no character");
        for (int n = 1; n <= 8; n++) {
            for (int bad : new int[] {0, 31, 127, 128, 160, 255}) {
                int many = n;
                long last = Check.packed("        ") & ~(255L << 8 * (n - 1)) | (long) bad << 8 * (n - 1);
                StackForth forth = new StackForth();
                forth.write('5', 1);
                Check.fails(bad + " as the last of " + n, WRONG, () -> forth.write(last, many));
                if (n > 1) {
                    Check.same(bad + " behind the last of " + (n - 1), forth.write(last, many - 1), n);
                }
                forth.interpret();
                Check.stack("nothing of what was refused came", forth, 5);
            }
        }
        Check.same("negative longs", new StackForth().write(-1L << 8 | '~', 1), 1);
        Check.fails("0 as eight", WRONG, () -> new StackForth().write(0L, 8));
    }

    private static StackForth withText(int length) {
        StackForth forth = new StackForth();
        for (int i = 0; i < length; i++) {
            forth.write(' ', 1);
        }
        return forth;
    }

    private static void writeBeyondTheEnd() {
        Check.sentence("IllegalStateException, when there would be more than 160.");
        for (int n = 1; n <= 8; n++) {
            int many = n;
            Check.same(n + " up to 160", withText(160 - n).write(Check.packed("1 1 1 1 "), n), 160);
            for (int length = 161 - n; length <= 160; length++) {
                StackForth forth = withText(length);
                Check.fails(n + " behind " + length, REFUSED, () -> forth.write(Check.packed("1 1 1 1 "), many));
                if (length < 160) {
                    Check.same("it is as long as before", forth.write(' ', 1), length + 1);
                }
                Check.same("nothing of it came", forth.interpret(), 0);
            }
        }
    }

    private static void writeLooksAtWhatIsWrittenFirst() {
        Check.sentence("IllegalArgumentException, when ..; IllegalStateException, when there would be more than 160.");
        StackForth forth = withText(160);
        Check.fails("0 characters", WRONG, () -> forth.write(' ', 0));
        Check.fails("9 characters", WRONG, () -> forth.write(Check.packed("        "), 9));
        Check.fails("no character", WRONG, () -> forth.write(127, 1));
        Check.fails("a character", REFUSED, () -> forth.write(126, 1));
    }

    private static void anEmptyText() {
        Check.sentence("Interprets the text, which is gone then: how many words it has.");
        StackForth forth = new StackForth();
        Check.same("nothing is written", forth.interpret(), 0);
        Check.same("nothing again", forth.interpret(), 0);
        Check.same("one word", Check.text(forth, "1"), 1);
        Check.same("nothing then", forth.interpret(), 0);
        Check.stack("the word was done once", forth, 1);
        Check.same("80 words", Check.text(forth, "1 . ".repeat(40)), 80);
        Check.same("names are words", Check.text(forth, "VARIABLE A : B 1 ; 2 CONSTANT C"), 9);
        Check.same("words that are compiled", Check.text(forth, ": D 1 IF THEN"), 5);
        Check.same("nothing while something is compiled", forth.interpret(), 0);
        Check.holds("it is compiled still", forth.compiling());
    }

    private static void theTextIsGone() {
        Check.sentence("Interprets the text, which is gone then");
        for (String text : new String[] {"1", "1 FOO 2", "1 THEN 2", "1 + 2", "1 0 / 2"}) {
            StackForth forth = new StackForth();
            Check.write(forth, text);
            try {
                forth.interpret();
            } catch (RuntimeException e) {
                Check.holds(text + " throws", text.length() > 1);
            }
            int before = forth.depth();
            Check.same(text + ": the next text begins", forth.write('7', 1), 1);
            Check.same(text + ": its words", forth.interpret(), 1);
            Check.same(text + ": its number alone", forth.depth(), before + 1);
            Check.same(text + ": its number alone", forth.top(0), 7);
        }
        StackForth forth = Check.after("1".repeat(9) + " ".repeat(151));
        Check.text(forth, "2");
        Check.stack("a short text behind a long one", forth, 111111111, 2);
    }

    private static void nothingIsSaidBefore() {
        Check.sentence("Nothing is said before, and no load or store counted.");
        StackForth forth = Check.after(": A 1 2 3 4 2DROP 2DROP ; 5 . A");
        Check.counts("a text", forth, 1, 10, 1, 1);
        Check.same("a text: said()", forth.said(), 1);
        Check.text(forth, "");
        Check.counts("an empty text", forth, 1, 0, 0, 0);
        Check.same("an empty text: said()", forth.said(), 0);
        Check.fails("an empty text: saying(0)", OUTSIDE, () -> forth.saying(0));
        Check.text(forth, "5 . A");
        Check.textFails(forth, "FOO", UNKNOWN);
        Check.counts("a text that throws", forth, 1, 0, 0, 0);
        Check.same("a text that throws: said()", forth.said(), 0);
        Check.fails("a text that throws: saying(0)", OUTSIDE, () -> forth.saying(0));
        Check.text(forth, "A A");
        Check.counts("twice in one text", forth, 1, 16, 2, 2);
    }

    private static final String[] THROWING = {"FOO", "THEN", "+", "/", "L", ": B FOO", ": B IF ;", ": EIGHTCHS",
        "64 @", "R> R> R>", "DEEP", "CONSTANT LONGNAME"};

    private static Class<? extends RuntimeException> thrownBy(String text) {
        switch (text) {
            case "FOO": case ": B FOO": return UNKNOWN;
            case "/": return DIVIDED;
            case "L": return STEPS;
            case "+": case "64 @": case "R> R> R>": case "DEEP": return REFUSED;
            default: return WRONG;
        }
    }

    /** A text that says, stores, defines, fills both stacks, and then throws in the way that is named. */
    private static StackForth thrownOut(String throwing) {
        StackForth forth = Check.after(": L BEGIN AGAIN ; : DEEP RECURSE ; : A 1+ ; 40 41 42 >R");
        String numbers = throwing.equals("+") ? "2DROP" : throwing.equals("/") ? "0" : "6 7";
        Check.textFails(forth, "VARIABLE V 3 V ! 8 A . 9 CONSTANT C : D C ; 1 >R " + numbers + " " + throwing
                + " 1 . 4 V ! : E ;", thrownBy(throwing));
        return forth;
    }

    private static void whatStaysWhenItThrows() {
        Check.sentence("When it throws, what was done before stays");
        for (String throwing : THROWING) {
            StackForth forth = thrownOut(throwing);
            Check.same(throwing + ": count(0)", forth.count(0), 6);
            Check.same(throwing + ": count(4)", forth.count(4), 1);
            Check.same(throwing + ": cell(0)", forth.cell(0), 3);
            Check.same(throwing + ": said()", forth.said(), 1);
            Check.same(throwing + ": saying(0)", forth.saying(0), 9);
            Check.same(throwing + ": definition(5, 0)", forth.definition(5, 0), 2);
            Check.same(throwing + ": count(2)", forth.count(2), 1);
            Check.same(throwing + ": count(3)", forth.count(3), 2);
            Check.text(forth, "V D 5 A");
            Check.stack(throwing + ": definitions can be run", forth, 0, 9, 6);
            Check.textFails(forth, "E", UNKNOWN);
        }
    }

    private static void whatIsEmptiedWhenItThrows() {
        Check.sentence("but both stacks are emptied");
        for (String throwing : THROWING) {
            StackForth forth = thrownOut(throwing);
            Check.same(throwing + ": depth()", forth.depth(), 0);
            Check.same(throwing + ": count(5)", forth.count(5), 0);
            Check.fails(throwing + ": top(0)", OUTSIDE, () -> forth.top(0));
            Check.textFails(forth, "DROP", REFUSED);
            Check.textFails(forth, "R>", REFUSED);
            Check.text(forth, "1 2 >R DEPTH");
            Check.stack(throwing + ": they are used again", forth, 1, 1);
            Check.same(throwing + ": they are used again", forth.count(5), 1);
        }
        StackForth full = Check.withNumbers(24);
        Check.textFails(full, "FOO", UNKNOWN);
        Check.text(full, "1 ".repeat(24));
        Check.same("24 numbers again", full.depth(), 24);
        full = Check.withReturns(24);
        Check.textFails(full, "FOO", UNKNOWN);
        Check.text(full, "1 >R ".repeat(24));
        Check.same("24 to return again", full.count(5), 24);
    }

    private static void whatIsDroppedWhenItThrows() {
        Check.sentence("and the definition that was compiled is dropped");
        for (String throwing : new String[] {"FOO", "UNTIL", ":", ": C", "VARIABLE C", "CONSTANT C", "LOOP"}) {
            Class<? extends RuntimeException> due = throwing.equals("FOO") ? UNKNOWN : WRONG;
            StackForth forth = Check.after(": A 1 ;");
            Check.textFails(forth, ": A 2 IF 3 " + throwing, due);
            Check.counts("in one text, " + throwing, forth, 1);
            Check.text(forth, ": A 4 BEGIN 5 IF 6");
            Check.textFails(forth, throwing, due);
            Check.counts("over two texts, " + throwing, forth, 1);
            Check.text(forth, "A");
            Check.stack("the A before is still there", forth, 1);
            Check.text(forth, ": A 7 8 ; A");
            Check.stack("a new A has nothing of it", forth, 1, 7, 8);
            Check.same("a new A has nothing of it", forth.definition(1, 0), 3);
        }
        StackForth forth = Check.after(": A 1 2 3");
        Check.textFails(forth, "FOO", UNKNOWN);
        Check.text(forth, ": A DROP ;");
        Check.same("nor what was held", forth.definition(0, 1), 1);
    }

    private static void whatThrowsInADefinition() {
        Check.sentence("When it throws, what was done before stays");
        StackForth forth = Check.after(": A 5 . 6 1 ! 7 >R 8 0 / ; : B 4 . A 3 . ;");
        Check.textFails(forth, "1 2 B 9 .", DIVIDED);
        Check.same("said()", forth.said(), 2);
        Check.same("saying(0)", forth.saying(0), 5);
        Check.same("saying(1)", forth.saying(1), 4);
        Check.same("cell(1)", forth.cell(1), 6);
        Check.counts("steps", forth, 2, 16);
        Check.text(forth, "1");
        Check.stack("nothing of it goes on", forth, 1);
        Check.same("nothing of it goes on", forth.count(1), 1);
    }

    private static void itGoesOnAfterThrowing() {
        Check.sentence("NoSuchElementException .. IllegalArgumentException .. IllegalStateException .."
                + " ArithmeticException .. UnsupportedOperationException");
        StackForth forth = Check.after(": L BEGIN AGAIN ;");
        for (int i = 0; i < 10; i++) {
            Check.textFails(forth, "1 FOO", UNKNOWN);
            Check.textFails(forth, "1 THEN", WRONG);
            Check.textFails(forth, "1 +", REFUSED);
            Check.textFails(forth, "1 0 MOD", DIVIDED);
            Check.textFails(forth, "1 L", STEPS);
            Check.text(forth, "1 2 +");
            Check.stack("then a text is done", forth, 3);
        }
    }

    private static void compiling() {
        Check.sentence("Whether a definition is being compiled.");
        StackForth forth = new StackForth();
        Check.holds("new", !forth.compiling());
        Check.write(forth, ": A");
        Check.holds("written alone", !forth.compiling());
        forth.interpret();
        Check.holds(": A", forth.compiling());
        forth.interpret();
        Check.holds("an empty text", forth.compiling());
        Check.write(forth, ";");
        Check.holds("; written alone", forth.compiling());
        forth.interpret();
        Check.holds("; interpreted", !forth.compiling());
        Check.text(forth, "VARIABLE V 5 CONSTANT C V C");
        Check.holds("variables and constants", !forth.compiling());
        Check.text(forth, ": B ; : C");
        Check.holds("the second one", forth.compiling());
        Check.textFails(forth, "FOO", UNKNOWN);
        Check.holds("dropped", !forth.compiling());
        Check.textFails(forth, ":", WRONG);
        Check.holds("no name", !forth.compiling());
    }

    private static void depth() {
        Check.sentence("How many numbers are on the stack.");
        StackForth forth = new StackForth();
        for (int n = 0; n <= 24; n++) {
            Check.same("depth()", forth.depth(), n);
            if (n < 24) {
                Check.text(forth, "5");
            }
        }
        Check.textFails(forth, "5", REFUSED);
        Check.same("after the 25th", forth.depth(), 0);
        Check.text(forth, "5 6 >R : A 7 8");
        Check.same("neither returned nor compiled ones", forth.depth(), 1);
    }

    private static void top() {
        Check.sentence("The k-th number from the top (0) of the stack. IndexOutOfBoundsException, when there is none.");
        for (int n : new int[] {0, 1, 2, 23, 24}) {
            StackForth forth = Check.withNumbers(n);
            for (int k = 0; k < n; k++) {
                Check.same("top(" + k + ") of " + n, forth.top(k), n - k);
            }
            for (int k = n; k <= 30; k++) {
                int none = k;
                Check.fails("top(" + k + ") of " + n, OUTSIDE, () -> forth.top(none));
            }
            for (int k : FAR) {
                Check.fails("top(" + k + ") of " + n, OUTSIDE, () -> forth.top(k));
            }
        }
        StackForth forth = Check.after("1 2 3 DROP");
        Check.fails("what was dropped", OUTSIDE, () -> forth.top(2));
    }

    private static void cell() {
        Check.sentence("Cell k of the space. IndexOutOfBoundsException, when there is none.");
        StackForth forth = Check.after("11 0 ! 12 1 ! 13 62 ! 14 63 !");
        int[] cells = {0, 1, 2, 61, 62, 63};
        int[] due = {11, 12, 0, 0, 13, 14};
        for (int i = 0; i < cells.length; i++) {
            Check.same("cell(" + cells[i] + ")", forth.cell(cells[i]), due[i]);
        }
        Check.fails("cell(64)", OUTSIDE, () -> forth.cell(64));
        Check.fails("cell(65)", OUTSIDE, () -> forth.cell(65));
        for (int k : FAR) {
            Check.fails("cell(" + k + ")", OUTSIDE, () -> forth.cell(k));
        }
    }

    private static void said() {
        Check.sentence("How many numbers were said by the latest text.");
        StackForth forth = new StackForth();
        Check.same("new", forth.said(), 0);
        Check.text(forth, "1 2 3 . .");
        Check.same("two", forth.said(), 2);
        Check.text(forth, ".");
        Check.same("one", forth.said(), 1);
        Check.textFails(forth, ".", REFUSED);
        Check.same("none", forth.said(), 0);
        Check.text(forth, ": S BEGIN DUP . 1 - DUP 0= UNTIL DROP ; 41 S");
        Check.same("more than are kept", forth.said(), 41);
        Check.write(forth, "1 .");
        Check.same("written alone", forth.said(), 41);
    }

    private static void saying() {
        Check.sentence("The k-th of the latest 40 that were said (the latest one is 0)."
                + " IndexOutOfBoundsException, when there is none.");
        for (int n : new int[] {0, 1, 2, 39, 40, 41, 42, 80}) {
            StackForth forth = Check.after(": S BEGIN DUP . 1 - DUP 0= UNTIL DROP ;", n == 0 ? "" : n + " S");
            for (int k = 0; k < 90; k++) {
                int asked = k;
                if (k < Math.min(n, 40)) {
                    Check.same("saying(" + k + ") of " + n, forth.saying(k), k + 1);
                } else {
                    Check.fails("saying(" + k + ") of " + n, OUTSIDE, () -> forth.saying(asked));
                }
            }
            for (int k : FAR) {
                Check.fails("saying(" + k + ") of " + n, OUTSIDE, () -> forth.saying(k));
            }
            Check.text(forth, "77 . 78 .");
            Check.same("the next text: saying(0)", forth.saying(0), 78);
            Check.same("the next text: saying(1)", forth.saying(1), 77);
            Check.fails("the next text: saying(2)", OUTSIDE, () -> forth.saying(2));
        }
    }

    private static void definitionNumbers() {
        Check.sentence("Of definition d, from 0 in the order in which they came .."
                + " IndexOutOfBoundsException, when there is none of these.");
        StackForth forth = new StackForth();
        for (int n = 0; n <= 40; n++) {
            for (int d : new int[] {n, n + 1, 40, 41}) {
                if (d >= n) {
                    Check.fails("definition(" + d + ", 0) of " + n, OUTSIDE, () -> forth.definition(d, 0));
                }
            }
            if (n < 40) {
                Check.text(forth, ": A " + "1 ".repeat(n) + ";");
                Check.same("operations of " + n, forth.definition(n, 0), n + 1);
            }
        }
        for (int d = 0; d < 40; d++) {
            Check.same("operations of " + d, forth.definition(d, 0), d + 1);
            Check.same("loads of " + d, forth.definition(d, 1), 0);
            Check.same("stores of " + d, forth.definition(d, 2), d);
        }
        for (int d : FAR) {
            for (int what = -1; what <= 3; what++) {
                int asked = what;
                Check.fails("definition(" + d + ", " + what + ")", OUTSIDE, () -> forth.definition(d, asked));
            }
        }
    }

    private static void definitionWhats() {
        Check.sentence("how many operations it has (0; 1 for a variable or constant), how many loads (1) and stores (2)");
        StackForth forth = Check.after(": A + DUP ; VARIABLE V 5 CONSTANT C : E ;");
        int[][] due = {{3, 2, 2}, {1, 0, 1}, {1, 0, 1}, {1, 0, 0}};
        for (int d = 0; d < due.length; d++) {
            int asked = d;
            for (int what = 0; what < 3; what++) {
                Check.same("definition(" + d + ", " + what + ")", forth.definition(d, what), due[d][what]);
            }
            Check.fails("definition(" + d + ", 3)", OUTSIDE, () -> forth.definition(asked, 3));
            for (int what : FAR) {
                Check.fails("definition(" + d + ", " + what + ")", OUTSIDE, () -> forth.definition(asked, what));
            }
        }
        Check.text(forth, ": B 1 2");
        Check.fails("while it is compiled", OUTSIDE, () -> forth.definition(4, 0));
    }

    private static void count() {
        Check.sentence("IndexOutOfBoundsException, for another what.");
        StackForth forth = Check.after(": A + DUP ; VARIABLE V VARIABLE W 5 CONSTANT C", "1 2 A >R >R V >R");
        Check.counts("all of them", forth, 4, 11, 2, 3, 2, 3);
        Check.fails("count(6)", OUTSIDE, () -> forth.count(6));
        Check.fails("count(7)", OUTSIDE, () -> forth.count(7));
        for (int what : FAR) {
            Check.fails("count(" + what + ")", OUTSIDE, () -> forth.count(what));
        }
        Check.text(forth, "");
        Check.counts("of the latest text", forth, 4, 0, 0, 0, 2, 3);
        Check.text(forth, ": D");
        Check.counts("while one is compiled", forth, 4, 0, 0, 0, 2, 3);
    }

    private static void askingChangesNothing() {
        Check.sentence("IndexOutOfBoundsException, when there is none.");
        StackForth forth = Check.after(": A + DUP ; 1 2 A 3 >R 4 . : B 5");
        for (int i = 0; i < 3; i++) {
            Check.fails("top(2)", OUTSIDE, () -> forth.top(2));
            Check.fails("cell(64)", OUTSIDE, () -> forth.cell(64));
            Check.fails("saying(1)", OUTSIDE, () -> forth.saying(1));
            Check.fails("definition(1, 0)", OUTSIDE, () -> forth.definition(1, 0));
            Check.fails("count(6)", OUTSIDE, () -> forth.count(6));
            Check.stack("the stack", forth, 3, 3);
            Check.counts("the counts", forth, 1, 10, 2, 2, 0, 1);
            Check.same("said()", forth.said(), 1);
            Check.holds("compiling()", forth.compiling());
        }
    }

    private static void lastCalls() {
        Check.sentence("An object is used for at most 512 calls after it has been made");
        StackForth forth = new StackForth();
        for (int i = 1; i <= 510; i += 2) {
            forth.write(Check.packed("5 . 6 . "), 8);
            Check.same("call " + (i + 1), forth.interpret(), 4);
        }
        Check.same("call 511", forth.said(), 2);
        Check.same("call 512", forth.saying(0), 6);
    }
}
