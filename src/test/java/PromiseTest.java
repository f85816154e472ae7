import java.util.NoSuchElementException;

/** The promises 1 to 11 of the document, with the edges that it names and wrong inputs. */
public final class PromiseTest {
    private static final Class<NoSuchElementException> UNKNOWN = NoSuchElementException.class;
    private static final Class<IllegalArgumentException> WRONG = IllegalArgumentException.class;
    private static final Class<IllegalStateException> REFUSED = IllegalStateException.class;
    private static final Class<ArithmeticException> DIVIDED = ArithmeticException.class;
    private static final Class<UnsupportedOperationException> STEPS = UnsupportedOperationException.class;
    private static final Class<IndexOutOfBoundsException> OUTSIDE = IndexOutOfBoundsException.class;

    public static void main(String[] args) {
        promise1();
        promise2();
        promise3Words();
        promise3Arithmetic();
        promise3Moves();
        promise3Memory();
        promise3Returns();
        promise3Names();
        promise3Definitions();
        promise3Conditions();
        promise3Loops();
        promise3WhatDoesNotFit();
        promise3Limits();
        promise3FullStack();
        promise3TooDeep();
        promise3Steps();
        promise3Throwing();
        promise4();
        promise5And6();
        promise7();
        promise8And9();
        promise10();
        promise11();
        Check.end("PromiseTest");
    }

    private static String times(int n, String words) {
        return words.repeat(n);
    }

    private static void promise1() {
        StackForth forth = new StackForth();
        Check.same("new: write", forth.write('1', 1), 1);
        forth = new StackForth();
        Check.same("new: interpret()", forth.interpret(), 0);
        Check.holds("new: not compiling()", !forth.compiling());
        Check.stack("new", forth);
        Check.same("new: said()", forth.said(), 0);
        for (int what = 0; what <= 5; what++) {
            Check.same("new: count(" + what + ")", forth.count(what), 0);
        }
        for (int k = 0; k < 64; k++) {
            Check.same("new: cell(" + k + ")", forth.cell(k), 0);
        }
        StackForth other = Check.after("5 0 ! 1 2 : A 1 ;");
        Check.stack("another object", new StackForth());
        Check.same("another object: count(0)", new StackForth().count(0), 0);
        Check.same("the first one: count(0)", other.count(0), 1);
    }

    private static void promise2() {
        StackForth forth = new StackForth();
        Check.same("the n lowest bytes alone", forth.write(Check.packed("12") | -1L << 16, 2), 2);
        Check.same("behind the text", forth.write(Check.packed("3 4"), 3), 5);
        Check.same("words", forth.interpret(), 2);
        Check.stack("lowest first", forth, 123, 4);
        for (int n : new int[] {0, -1, 9, Integer.MIN_VALUE, Integer.MAX_VALUE}) {
            Check.fails("write(.., " + n + ")", WRONG, () -> forth.write(Check.packed("11111111"), n));
        }
        for (int c : new int[] {0, 9, 10, 31, 127, 128, 255}) {
            Check.fails("character " + c, WRONG, () -> forth.write(c, 1));
            Check.fails("character " + c + " on top", WRONG, () -> forth.write((long) c << 56 | 0x31313131313131L, 8));
        }
        Check.same("nothing came of these", forth.write(Check.packed("!~ "), 3), 3);
        for (int i = 0; i < 19; i++) {
            forth.write(Check.packed("        "), 8);
        }
        Check.fails("the 161st", REFUSED, () -> forth.write(Check.packed("      "), 6));
        Check.fails("a bad character beyond the end", WRONG, () -> forth.write(Check.packed("     \n"), 6));
        Check.same("the 160th", forth.write(Check.packed("     "), 5), 160);
        Check.fails("behind the 160th", REFUSED, () -> forth.write(' ', 1));
        Check.fails("!~ is no word", UNKNOWN, forth::interpret);
        Check.same("the text is gone", forth.write(Check.packed("1"), 1), 1);
    }

    private static void promise3Words() {
        Check.same("words between spaces", Check.text(new StackForth(), "  1   2  3 "), 3);
        Check.same("names are words", Check.text(new StackForth(), ": A 1 ; VARIABLE B 3 CONSTANT C"), 9);
        Check.same("words of the second text", Check.text(Check.after("1 2 3"), "4 5"), 2);
        Check.same("spaces alone", Check.text(new StackForth(), "   "), 0);
        Check.same("80 words", Check.text(new StackForth(), times(40, "1 . ")), 80);
        Check.gives("0 -0 007 999999999 -999999999", 0, 0, 7, 999999999, -999999999);
        for (String word : new String[] {"1234567890", "-1234567890", "--1", "+1", "1-", "12a", "dup", "FOO",
            "NUMBER", "CALL", "DUPDUPDUP", "-:", "/0", "0x1", "VARIABLES", "CONSTANTS", ".."}) {
            Check.textFails(new StackForth(), word, UNKNOWN);
            Check.textFails(new StackForth(), ": A " + word, UNKNOWN);
        }
    }

    private static void promise3Arithmetic() {
        Check.gives("7 3 + 7 3 - 7 3 * 7 3 / 7 3 MOD", 10, 4, 21, 2, 1);
        Check.gives("-7 3 / -7 3 MOD 7 -3 / 7 -3 MOD -7 -3 / -7 -3 MOD", -2, -1, -2, 1, 2, -1);
        Check.gives("12 10 AND 12 10 OR 12 10 XOR", 8, 14, 6);
        Check.gives("3 -5 MIN 3 -5 MAX -5 3 MIN -5 3 MAX", -5, 3, -5, 3);
        Check.gives("1 2 < 2 1 < 2 2 <", -1, 0, 0);
        Check.gives("1 2 = 2 1 = 2 2 =", 0, 0, -1);
        Check.gives("1 2 > 2 1 > 2 2 >", 0, -1, 0);
        Check.gives("5 NEGATE 5 INVERT -5 ABS 5 ABS -1 1+", -5, -6, 5, 5, 0);
        Check.gives("0 0= 5 0= -1 0< 0 0< 1 0<", -1, 0, -1, 0, 0);
        String least = "65536 32768 * ";
        Check.gives(least, Integer.MIN_VALUE);
        Check.gives(least + "DUP 1 - SWAP -1 /", Integer.MAX_VALUE, Integer.MIN_VALUE);
        Check.gives(least + "-1 MOD " + least + "ABS " + least + "NEGATE", 0, Integer.MIN_VALUE, Integer.MIN_VALUE);
        Check.gives(least + "1 < " + least + "1 - 1+ " + least + "1 - 0 >", -1, Integer.MIN_VALUE, -1);
        Check.textFails(new StackForth(), "5 0 /", DIVIDED);
        Check.textFails(new StackForth(), "0 0 MOD", DIVIDED);
        Check.textFails(new StackForth(), "0 /", REFUSED);
        Check.textFails(new StackForth(), ": A 5 0 MOD ; A", DIVIDED);
        for (String word : "+ - * / MOD AND OR XOR MIN MAX < = >".split(" ")) {
            Check.textFails(new StackForth(), "1 " + word, REFUSED);
            Check.textFails(new StackForth(), ": A 1 " + word + " ; A", REFUSED);
        }
        for (String word : "NEGATE INVERT ABS 1+ 0= 0<".split(" ")) {
            Check.textFails(new StackForth(), word, REFUSED);
        }
    }

    private static void promise3Moves() {
        Check.gives("9 1 DUP", 9, 1, 1);
        Check.gives("9 1 DROP", 9);
        Check.gives("9 1 2 SWAP", 9, 2, 1);
        Check.gives("9 1 2 OVER", 9, 1, 2, 1);
        Check.gives("9 1 2 3 ROT", 9, 2, 3, 1);
        Check.gives("9 1 2 NIP", 9, 2);
        Check.gives("9 1 2 TUCK", 9, 2, 1, 2);
        Check.gives("9 1 2 2DUP", 9, 1, 2, 1, 2);
        Check.gives("9 1 2 2DROP", 9);
        Check.gives("DEPTH DEPTH 7 DEPTH", 0, 1, 7, 3);
        Check.gives(": A DEPTH 7 DEPTH ; 5 A", 5, 1, 7, 3);
        Check.textFails(new StackForth(), "1 2 ROT", REFUSED);
        for (String word : "SWAP OVER NIP TUCK 2DUP 2DROP".split(" ")) {
            Check.textFails(new StackForth(), "1 " + word, REFUSED);
        }
        Check.textFails(new StackForth(), "DUP", REFUSED);
        Check.textFails(new StackForth(), "DROP", REFUSED);
    }

    private static void promise3Memory() {
        StackForth forth = Check.after("7 0 ! 9 63 ! 5 63 +! 63 @ 0 @ 1 @");
        Check.stack("cells", forth, 14, 7, 0);
        Check.same("cell(63)", forth.cell(63), 14);
        Check.same("no cell is taken", forth.count(4), 0);
        for (String k : new String[] {"-1", "64", "999999999"}) {
            Check.textFails(forth, k + " @", REFUSED);
            Check.textFails(forth, "1 " + k + " !", REFUSED);
            Check.textFails(forth, "1 " + k + " +!", REFUSED);
        }
        Check.textFails(forth, "@", REFUSED);
        Check.textFails(forth, "1 !", REFUSED);
        Check.textFails(forth, "1 +!", REFUSED);
        Check.same("cell(1)", forth.cell(1), 0);
        Check.text(forth, "VARIABLE A VARIABLE B B A @");
        Check.stack("a variable's cell keeps what it has", forth, 1, 7);
        Check.text(forth, "A +! DROP 4 B +! B @");
        Check.stack("+! with a variable", forth, 4);
        Check.same("cell(0)", forth.cell(0), 14);
    }

    private static void promise3Returns() {
        StackForth forth = Check.after("1 2 3 >R >R R@ I R> R>");
        Check.stack("return stack", forth, 1, 2, 2, 2, 3);
        Check.textFails(forth, "1 >R R> R>", REFUSED);
        Check.textFails(forth, "R@", REFUSED);
        Check.textFails(forth, "I", REFUSED);
        Check.textFails(forth, ">R", REFUSED);
        Check.text(forth, times(24, "1 >R "));
        Check.same("24 on the return stack", forth.count(5), 24);
        Check.textFails(forth, "1 >R", REFUSED);
        Check.text(forth, ": A >R ; : B R> ; 5 A");
        Check.same("it stays over texts", forth.count(5), 1);
        Check.text(forth, "B");
        Check.stack("definitions share it", forth, 5);
        Check.text(forth, times(22, "1 >R "));
        Check.text(forth, ": L 1 0 DO LOOP ; L");
        Check.same("room for two", forth.count(5), 22);
        Check.text(forth, "1 >R");
        Check.textFails(forth, "L", REFUSED);
    }

    private static void promise3Names() {
        StackForth forth = Check.after(": SEVENCH 1 ; : DUP 2 ; : 5 3 ; : VAR 4 ;");
        Check.text(forth, "SEVENCH DUP 5 VAR");
        Check.stack("definitions come before built-in words and numbers", forth, 1, 2, 3, 4);
        Check.textFails(forth, ": EIGHTCHS 1 ;", WRONG);
        Check.textFails(forth, "VARIABLE EIGHTCHS", WRONG);
        Check.textFails(forth, "1 CONSTANT EIGHTCHS", WRONG);
        Check.textFails(forth, "CONSTANT EIGHTCHS", WRONG);
        Check.textFails(forth, ":", WRONG);
        Check.textFails(forth, "VARIABLE ", WRONG);
        Check.textFails(forth, "1 CONSTANT", WRONG);
        Check.textFails(forth, "CONSTANT", WRONG);
        Check.textFails(forth, "CONSTANT C", REFUSED);
        Check.same("none of these came", forth.count(0), 4);
        Check.same("no cell was taken", forth.count(4), 0);
        forth = Check.after(": A 1 ; : B A ; : A A 1+ ; A B");
        Check.stack("the latest one counts, from its end on", forth, 2, 1);
        Check.textFails(new StackForth(), ": A A ;", UNKNOWN);
        forth = Check.after(": ; ;", ": X 5 ;");
        Check.holds("; is a definition now", forth.compiling());
        forth = Check.after(": : 8 ; :");
        Check.stack(": is a definition now", forth, 8);
        forth = Check.after("VARIABLE IF 6 IF ! IF @");
        Check.stack("IF is a variable now", forth, 6);
    }

    private static void promise3Definitions() {
        StackForth forth = Check.after("VARIABLE A VARIABLE B 42 CONSTANT C A B C");
        Check.stack("variables and constants", forth, 0, 1, 42);
        Check.text(forth, ": D A B C ; 2DROP DROP D");
        Check.stack("within a definition", forth, 0, 1, 42);
        forth = Check.after(": A 1", "2", "+ ;", "A");
        Check.stack("a definition over several texts", forth, 3);
        forth = Check.after(": A 1 EXIT 2 ; : B A A ; B");
        Check.stack("EXIT", forth, 1, 1);
        Check.gives(": A DUP IF 1 - RECURSE 7 THEN ; 3 A", 0, 7, 7, 7);
        Check.gives(": ; 5 ; ;", 5);
    }

    private static void promise3Conditions() {
        Check.gives(": A IF 1 THEN 2 ; 5 A 0 A -1 A", 1, 2, 2, 1, 2);
        Check.gives(": A IF 1 ELSE 2 THEN 3 ; 5 A 0 A", 1, 3, 2, 3);
        Check.gives(": A IF IF 1 ELSE 2 THEN ELSE 3 THEN ; 0 1 A 1 1 A 0 A", 2, 1, 3);
        Check.gives(": A IF ELSE 1 THEN ; 1 A 0 A", 1);
        Check.gives(": A IF EXIT THEN 4 ; 1 A 0 A", 4);
        Check.textFails(new StackForth(), ": A IF THEN ; A", REFUSED);
    }

    private static void promise3Loops() {
        Check.gives(": A BEGIN 1+ DUP 5 = UNTIL ; 2 A", 5);
        Check.gives(": A BEGIN DUP 5 < WHILE DUP 1+ REPEAT 9 ; 3 A", 3, 4, 5, 9);
        Check.gives(": A BEGIN 1+ DUP 9 > IF EXIT THEN AGAIN ; 2 A", 10);
        Check.gives(": A 5 2 DO I LOOP 7 ; A", 2, 3, 4, 7);
        Check.gives(": A 2 0 DO I 3 1 DO I LOOP LOOP ; A", 0, 1, 2, 1, 1, 2);
        Check.gives(": A 3 0 DO R@ R> R> OVER >R >R LOOP ; : B 1 0 DO I LOOP ; B", 0);
        Check.gives(": A -1 -3 DO I LOOP ; A", -3, -2);
        Check.gives(": A 65536 32768 * DUP 1 - DO I LOOP ; A", Integer.MAX_VALUE);
        StackForth forth = Check.after(": A 5 0 DO I 2 = IF EXIT THEN LOOP ; A");
        Check.same("EXIT leaves what DO put there", forth.count(5), 2);
        Check.text(forth, "R> R>");
        Check.stack("m below s", forth, 2, 5);
        Check.textFails(forth, ": B 2 0 DO R> DROP LOOP ; B", REFUSED);
        Check.textFails(forth, ": B 2 0 DO R> R> 2DROP LOOP ; B", REFUSED);
        Check.textFails(forth, ": B DO LOOP ; 1 B", REFUSED);
        Check.textFails(forth, ": B 1 1 DO LOOP ; B", STEPS);
    }

    private static void promise3WhatDoesNotFit() {
        for (String word : "; IF ELSE THEN BEGIN UNTIL AGAIN WHILE REPEAT DO LOOP EXIT RECURSE".split(" ")) {
            Check.textFails(new StackForth(), "1 1 " + word, WRONG);
        }
        for (String words : new String[] {":", ": B", "VARIABLE B", "1 CONSTANT B", "THEN", "ELSE", "UNTIL",
            "AGAIN", "WHILE", "REPEAT", "LOOP", "IF ;", "IF ELSE ;", "BEGIN ;", "BEGIN WHILE ;", "DO ;",
            "IF ELSE ELSE", "IF UNTIL", "IF LOOP", "IF REPEAT", "IF AGAIN", "IF WHILE", "BEGIN THEN", "BEGIN ELSE",
            "BEGIN REPEAT", "BEGIN LOOP", "BEGIN WHILE UNTIL", "BEGIN WHILE AGAIN", "BEGIN WHILE WHILE",
            "BEGIN WHILE THEN", "BEGIN WHILE ELSE", "DO THEN", "DO UNTIL", "DO AGAIN", "DO REPEAT", "DO WHILE",
            "IF BEGIN THEN", "IF DO THEN", "BEGIN IF UNTIL", "DO IF LOOP", "BEGIN WHILE IF REPEAT",
            "IF THEN THEN", "BEGIN UNTIL UNTIL", "DO LOOP LOOP", "BEGIN WHILE REPEAT AGAIN"}) {
            StackForth forth = new StackForth();
            Check.textFails(forth, "1 2 : A " + words, WRONG);
            Check.same(words + ": count(0)", forth.count(0), 0);
        }
    }

    private static void promise3Limits() {
        StackForth forth = new StackForth();
        Check.text(forth, ": A " + times(50, "1 "));
        Check.text(forth, times(9, "1 ") + ";");
        Check.same("60 operations", forth.definition(0, 0), 60);
        Check.text(forth, ": B " + times(60, "1 "));
        Check.holds("60 operations are open", forth.compiling());
        Check.text(forth, "BEGIN");
        Check.textFails(forth, ";", WRONG);
        Check.text(forth, ": B " + times(60, "1 "));
        Check.textFails(forth, "1", WRONG);
        Check.text(forth, ": B " + times(60, "1 "));
        Check.textFails(forth, "FOO", UNKNOWN);
        Check.text(forth, ": B " + times(8, "IF ") + times(8, "THEN ") + ";");
        Check.text(forth, ": B " + times(7, "IF ") + "ELSE BEGIN");
        Check.textFails(forth, "WHILE", WRONG);
        for (String word : "IF BEGIN DO".split(" ")) {
            Check.text(forth, ": B " + times(8, "DO "));
            Check.textFails(forth, word, WRONG);
        }
        Check.text(forth, ": B " + times(7, "BEGIN ") + "IF ELSE THEN BEGIN AGAIN " + times(7, "AGAIN ") + ";");
        Check.same("three definitions", forth.count(0), 3);
        fortyDefinitions();
    }

    private static void fortyDefinitions() {
        StackForth forth = new StackForth();
        for (int i = 0; i < 13; i++) {
            Check.text(forth, ": A ; VARIABLE B 1 CONSTANT C");
        }
        Check.text(forth, "5 : D DUP ;");
        Check.same("40 definitions", forth.count(0), 40);
        Check.text(forth, "D");
        Check.stack("the 40th", forth, 5, 5);
        Check.textFails(forth, ": E", WRONG);
        Check.textFails(forth, "VARIABLE E", WRONG);
        Check.textFails(forth, "1 CONSTANT E", WRONG);
        Check.textFails(forth, "CONSTANT E", WRONG);
        Check.same("40 definitions", forth.count(0), 40);
        Check.same("13 cells", forth.count(4), 13);
    }

    private static void promise3FullStack() {
        StackForth forth = Check.after(": A 1 2 3 4 5 6 ; A A A A");
        Check.same("24 numbers", forth.depth(), 24);
        Check.text(forth, "SWAP ROT + 1 NIP 1");
        Check.same("24 numbers again", forth.depth(), 24);
        Check.textFails(forth, "1", REFUSED);
        for (String word : "1 DUP OVER TUCK 2DUP DEPTH A".split(" ")) {
            Check.text(forth, "A A A A");
            Check.textFails(forth, word, REFUSED);
            Check.text(forth, "A A A A");
            Check.textFails(forth, "DROP : B " + word + " " + word + " ; B", REFUSED);
        }
        for (String word : "R> R@ I".split(" ")) {
            Check.text(forth, "A A A A >R 1");
            Check.textFails(forth, word, REFUSED);
        }
        Check.text(forth, "A A A A DROP");
        Check.textFails(forth, "2DUP", REFUSED);
        Check.text(forth, "A A A A DROP : C DUP DROP ; C");
        Check.same("23 numbers", forth.depth(), 23);
    }

    private static void promise3TooDeep() {
        String deep = ": M DUP IF 1 - RECURSE THEN ; ";
        Check.gives(deep + "11 M", 0);
        Check.textFails(new StackForth(), deep + "12 M", REFUSED);
        StackForth forth = Check.after("VARIABLE X : N DUP IF 1 - RECURSE ELSE X THEN ; 10 N");
        Check.stack("a variable is run too, 12 deep", forth, 0, 0);
        Check.textFails(forth, "11 N", REFUSED);
        Check.text(forth, "10 N");
        Check.stack("after it was too deep", forth, 0, 0);
    }

    private static void promise3Steps() {
        StackForth forth = Check.after(": A 100 0 DO LOOP ; : B A A A A A ;");
        Check.text(forth, "A");
        Check.same("1 + 3 + 100 + 1", forth.count(1), 105);
        Check.text(forth, "B");
        Check.same("1 + 5 + 5 * 104 + 1", forth.count(1), 527);
        String all = "B 1 1 DROP D 1 . 1 ";
        Check.text(forth, ": D 62 0 DO LOOP ;");
        Check.same("what is compiled takes none", forth.count(1), 0);
        Check.text(forth, all);
        Check.same("527 + 3 + 67 + 3", forth.count(1), 600);
        Check.text(forth, ": E 1 ; VARIABLE V " + all + "CONSTANT C : F");
        Check.same("words for definitions take none", forth.count(1), 600);
        Check.text(forth, ";");
        for (String word : "1 + A V C DROP .".split(" ")) {
            Check.textFails(forth, all + word, STEPS);
            Check.same("the 601st, " + word, forth.count(1), 600);
            Check.same("what was done before it, " + word, forth.said(), 1);
        }
        Check.textFails(forth, all + "FOO", UNKNOWN);
        Check.textFails(forth, all + "THEN", WRONG);
        Check.textFails(forth, ": L BEGIN AGAIN ; L", STEPS);
        Check.same("endless", forth.count(1), 600);
        Check.text(forth, "1 DROP");
        Check.same("a new text begins anew", forth.count(1), 2);
    }

    private static void promise3Throwing() {
        StackForth forth = new StackForth();
        Check.textFails(forth, ": A 1 ; VARIABLE V 3 V ! 7 . 1 >R 2 FOO 8 .", UNKNOWN);
        Check.same("what was done stays: count(0)", forth.count(0), 2);
        Check.same("what was done stays: cell(0)", forth.cell(0), 3);
        Check.same("what was done stays: said()", forth.said(), 1);
        Check.same("what was done stays: saying(0)", forth.saying(0), 7);
        Check.same("what was done stays: count(1)", forth.count(1), 9);
        Check.same("what was done stays: count(4)", forth.count(4), 1);
        Check.text(forth, "A");
        Check.stack("definitions stay", forth, 1);
        Check.same("nothing is said before", forth.said(), 0);
        Check.text(forth, ": B 5 IF");
        Check.textFails(forth, "FOO", UNKNOWN);
        Check.textFails(forth, "B", UNKNOWN);
        Check.text(forth, ": B 6 ; B");
        Check.stack("the dropped definition left nothing", forth, 6);
        Check.same("nor in its row", forth.definition(2, 0), 2);
    }

    private static void promise4() {
        StackForth forth = Check.after(": A");
        Check.holds("behind : A", forth.compiling());
        Check.text(forth, "IF 1 THEN");
        Check.holds("over texts", forth.compiling());
        Check.text(forth, ";");
        Check.holds("behind ;", !forth.compiling());
        Check.text(forth, "VARIABLE B 1 CONSTANT C : D ; 1");
        Check.holds("behind whole definitions", !forth.compiling());
        Check.text(forth, ": E 1 ;  : F");
        Check.holds("the last one is open", forth.compiling());
        Check.textFails(forth, "THEN", WRONG);
    }

    private static void promise5And6() {
        StackForth forth = Check.after("10 20 30");
        Check.stack("three numbers", forth, 10, 20, 30);
        for (int k : new int[] {3, -1, 24, Integer.MAX_VALUE, Integer.MIN_VALUE}) {
            Check.fails("top(" + k + ")", OUTSIDE, () -> forth.top(k));
        }
        Check.text(forth, "DROP : A 7");
        Check.stack("compiled numbers are not put there", forth, 10, 20);
        Check.fails("top(0) of none", OUTSIDE, () -> new StackForth().top(0));
    }

    private static void promise7() {
        StackForth forth = Check.after("11 0 ! 12 1 ! 13 63 !");
        Check.same("cell(0)", forth.cell(0), 11);
        Check.same("cell(1)", forth.cell(1), 12);
        Check.same("cell(63)", forth.cell(63), 13);
        for (int k : new int[] {-1, 64, Integer.MAX_VALUE, Integer.MIN_VALUE}) {
            Check.fails("cell(" + k + ")", OUTSIDE, () -> forth.cell(k));
        }
    }

    private static void promise8And9() {
        StackForth forth = Check.after("1 2 3 . . 9 .");
        Check.same("said()", forth.said(), 3);
        Check.same("saying(0)", forth.saying(0), 9);
        Check.same("saying(1)", forth.saying(1), 2);
        Check.same("saying(2)", forth.saying(2), 3);
        for (int k : new int[] {3, -1, 40, Integer.MAX_VALUE, Integer.MIN_VALUE}) {
            Check.fails("saying(" + k + ")", OUTSIDE, () -> forth.saying(k));
        }
        Check.text(forth, ": A 100 0 DO I . LOOP ; A");
        Check.same("100 are said", forth.said(), 100);
        for (int k = 0; k < 40; k++) {
            Check.same("saying(" + k + ") of 100", forth.saying(k), 99 - k);
        }
        Check.fails("saying(40) of 100", OUTSIDE, () -> forth.saying(40));
        Check.text(forth, "5 .");
        Check.same("said anew", forth.said(), 1);
        Check.same("saying(0) anew", forth.saying(0), 5);
        Check.fails("saying(1) anew", OUTSIDE, () -> forth.saying(1));
        Check.text(forth, "");
        Check.same("an empty text says nothing", forth.said(), 0);
        Check.textFails(forth, "DROP .", REFUSED);
        Check.same("what is missing is not said", forth.said(), 0);
    }

    private static void promise10() {
        StackForth forth = Check.after(": A ; : B IF 1 THEN BEGIN AGAIN ; VARIABLE V 5 CONSTANT C : D B EXIT RECURSE ;");
        int[][] due = {{1, 0, 0}, {4, 1, 1}, {1, 0, 1}, {1, 0, 1}, {4, 0, 0}};
        for (int d = 0; d < due.length; d++) {
            for (int what = 0; what < 3; what++) {
                Check.same("definition(" + d + ", " + what + ")", forth.definition(d, what), due[d][what]);
            }
        }
        for (int d : new int[] {-1, 5, 40, Integer.MAX_VALUE, Integer.MIN_VALUE}) {
            Check.fails("definition(" + d + ", 0)", OUTSIDE, () -> forth.definition(d, 0));
        }
        for (int what : new int[] {-1, 3, Integer.MAX_VALUE, Integer.MIN_VALUE}) {
            Check.fails("definition(0, " + what + ")", OUTSIDE, () -> forth.definition(0, what));
        }
        Check.text(forth, ": E 1");
        Check.fails("a definition that is compiled is not there", OUTSIDE, () -> forth.definition(5, 0));
        Check.text(forth, ";");
        Check.same("it is there from its end on", forth.definition(5, 0), 2);
    }

    private static void promise11() {
        StackForth forth = Check.after(": SQ DUP * ; VARIABLE V 5 CONSTANT C", "3 SQ C V 1 >R");
        int[] due = {3, 11, 1, 3, 1, 1};
        for (int what = 0; what < due.length; what++) {
            Check.same("count(" + what + ")", forth.count(what), due[what]);
        }
        for (int what : new int[] {-1, 6, Integer.MAX_VALUE, Integer.MIN_VALUE}) {
            Check.fails("count(" + what + ")", OUTSIDE, () -> forth.count(what));
        }
        Check.text(forth, "");
        int[] dueThen = {3, 0, 0, 0, 1, 1};
        for (int what = 0; what < dueThen.length; what++) {
            Check.same("an empty text: count(" + what + ")", forth.count(what), dueThen[what]);
        }
    }
}
