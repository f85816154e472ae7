import java.util.NoSuchElementException;

/** The boundary cases that stand under "DOING": the steps of a text, and how deep definitions are run. */
public final class DoingEdgeTest {
    private static final Class<NoSuchElementException> UNKNOWN = NoSuchElementException.class;
    private static final Class<IllegalArgumentException> WRONG = IllegalArgumentException.class;
    private static final Class<IllegalStateException> REFUSED = IllegalStateException.class;
    private static final Class<UnsupportedOperationException> STEPS = UnsupportedOperationException.class;

    public static void main(String[] args) {
        stepsOfBuiltInWords();
        stepsOfDefinitions();
        stepsOfConditionsAndLoops();
        wordsThatTakeNone();
        whatThrowsWithoutAStep();
        the601stIsNotDone();
        the601stWithinADefinitionIsNotDone();
        stepsOfWhatThrows();
        stepsOfTheLatestText();
        endless();
        twelveDeepByRecurse();
        twelveDeepByNames();
        twelveDeepWithVariables();
        deepAgainAndAgain();
        deepAfterThrowing();
        Check.end("DoingEdgeTest");
    }

    /** F takes so many steps: itself, its m and s, DO, LOOP m times, and its end. */
    private static String taking(int steps) {
        return ": F " + (steps - 5) + " 0 DO LOOP ;";
    }

    /** The text must take so many steps, and be the last that is done in 600, and too much for one step less. */
    private static void costs(int steps, String definitions, String numbers, String text) {
        String what = definitions + " " + numbers + " " + text;
        StackForth forth = Check.after(definitions, numbers, text);
        Check.same(what + ": steps", forth.count(1), steps);
        StackForth last = Check.after(taking(600 - steps), definitions, numbers, "F " + text);
        Check.same(what + " within 600: steps", last.count(1), 600);
        StackForth tooMuch = Check.after(taking(601 - steps), definitions, numbers);
        Check.textFails(tooMuch, "F " + text, STEPS);
        Check.same(what + " within 599: steps", tooMuch.count(1), 600);
    }

    private static void stepsOfBuiltInWords() {
        Check.sentence("one .. for each built-in word, number .. that is interpreted .. at most 600 in a text");
        for (String word : ("+ - * / MOD AND OR XOR MIN MAX < = > NEGATE INVERT ABS 1+ 0= 0< DUP DROP SWAP OVER ROT"
                + " NIP TUCK 2DUP 2DROP DEPTH @ ! +! >R R> R@ I . 0 7 -999999999").split(" ")) {
            costs(1, "", "1 2 3 4 >R", word);
            costs(3, ": A " + word + " ;", "1 2 3 4 >R", "A");
        }
        costs(3, "", "", "1 2 +");
        costs(57, "", "", "1 " + "1+ ".repeat(40) + "1 + ".repeat(8));
    }

    private static void stepsOfDefinitions() {
        Check.sentence("one for each operation .. that is done, and for each .. definition that is interpreted");
        costs(2, ": A ;", "", "A");
        costs(4, ": A ;", "", "A A");
        costs(6, ": A ; : B A A ;", "", "B");
        costs(2, "VARIABLE V", "", "V");
        costs(2, "5 CONSTANT C", "", "C");
        costs(6, "5 CONSTANT C VARIABLE V : B C V ;", "", "B");
        costs(2, ": A EXIT ;", "", "A");
        costs(3, ": A 1 EXIT 2 3 4 ;", "", "A");
        costs(10, ": A DUP IF 1 - RECURSE THEN ;", "1", "A");
    }

    private static void stepsOfConditionsAndLoops() {
        Check.sentence("THEN, BEGIN are no operations. DOING takes STEPS: one for each operation");
        costs(3, ": A IF THEN ;", "1", "A");
        costs(3, ": A IF THEN ;", "0", "A");
        costs(5, ": A IF 1 ELSE 2 THEN ;", "1", "A");
        costs(4, ": A IF 1 ELSE 2 THEN ;", "0", "A");
        costs(3, ": A BEGIN UNTIL ;", "1", "A");
        costs(4, ": A BEGIN UNTIL ;", "1 0", "A");
        costs(3, ": A BEGIN WHILE REPEAT ;", "0", "A");
        costs(5, ": A BEGIN WHILE REPEAT ;", "0 1", "A");
        costs(3, ": A BEGIN IF EXIT THEN AGAIN ;", "1", "A");
        costs(5, ": A BEGIN IF EXIT THEN AGAIN ;", "1 0", "A");
        costs(4, ": A DO LOOP ;", "1 0", "A");
        costs(5, ": A DO LOOP ;", "2 0", "A");
    }

    private static void wordsThatTakeNone() {
        Check.sentence("Words for definitions and what is compiled take none.");
        StackForth forth = Check.after(taking(600), "7 8", "F CONSTANT C VARIABLE V : A 1 2 + DUP IF C ELSE EXIT THEN"
                + " BEGIN RECURSE UNTIL 2 1 DO LOOP ;");
        Check.counts("behind 600 steps", forth, 4, 600);
        Check.text(forth, "F : B 1");
        Check.holds("behind 600 steps", forth.compiling());
        Check.text(forth, "2 ; CONSTANT D VARIABLE W");
        Check.counts("definitions alone", forth, 7, 0);
        Check.stack("both numbers are gone", forth);
    }

    private static void whatThrowsWithoutAStep() {
        Check.sentence("UnsupportedOperationException, when the steps are used up");
        for (String text : new String[] {"THEN", ";", "IF", "EXIT", ":", ": EIGHTCHS", "VARIABLE", ": A THEN", ": A :"}) {
            StackForth forth = Check.after(taking(600));
            Check.textFails(forth, "F " + text, WRONG);
            Check.same(text + ": steps", forth.count(1), 600);
        }
        Check.textFails(Check.after(taking(600)), "F FOO", UNKNOWN);
        Check.textFails(Check.after(taking(600)), "F : A FOO", UNKNOWN);
        Check.textFails(Check.after(taking(600)), "F CONSTANT C", REFUSED);
        Check.textFails(Check.after(taking(599)), "F +", REFUSED);
        Check.textFails(Check.after(taking(599), "1 0"), "F /", ArithmeticException.class);
    }

    private static void the601stIsNotDone() {
        Check.sentence("at most 600 in a text .. what was done before stays");
        StackForth forth = Check.after(taking(600), "7 5 3");
        Check.textFails(forth, "F .", STEPS);
        Check.same("the 601st: said()", forth.said(), 0);
        forth = Check.after(taking(599), "7 5 3");
        Check.textFails(forth, "F . .", STEPS);
        Check.same("the 600th: said()", forth.said(), 1);
        Check.same("the 600th: saying(0)", forth.saying(0), 3);
        forth = Check.after(taking(600), "7 5 3");
        Check.textFails(forth, "F !", STEPS);
        Check.same("the 601st: cell(3)", forth.cell(3), 0);
        forth = Check.after(taking(599), "7 5 3");
        Check.textFails(forth, "F ! 1", STEPS);
        Check.same("the 600th: cell(3)", forth.cell(3), 5);
    }

    private static void the601stWithinADefinitionIsNotDone() {
        Check.sentence("one for each operation of a definition that is done .. at most 600 in a text");
        for (int before = 596; before <= 599; before++) {
            StackForth forth = Check.after(taking(before), ": S . . 5 0 ! ;", "7 8 9");
            Check.textFails(forth, "F S", STEPS);
            Check.same("behind " + before + ": steps", forth.count(1), 600);
            Check.same("behind " + before + ": said()", forth.said(), Math.min(2, 599 - before));
            Check.same("behind " + before + ": cell(0)", forth.cell(0), 0);
        }
        StackForth forth = Check.after(taking(594), ": S . . 5 0 ! ;", "7 8 9");
        Check.textFails(forth, "F S", STEPS);
        Check.same("its end is the 601st: cell(0)", forth.cell(0), 5);
        forth = Check.after(taking(593), ": S . . 5 0 ! ;", "7 8 9", "F S");
        Check.same("its end is the 600th", forth.count(1), 600);
        Check.stack("its end is the 600th", forth, 7);
    }

    private static void stepsOfWhatThrows() {
        Check.sentence("steps (1) .. of the latest text");
        StackForth forth = new StackForth();
        Check.textFails(forth, "1 2 FOO 3", UNKNOWN);
        Check.same("before an unknown word", forth.count(1), 2);
        Check.textFails(forth, "1 2 THEN 3", WRONG);
        Check.same("before a wrong word", forth.count(1), 2);
        Check.textFails(forth, "1 2 : A 3 4 THEN", WRONG);
        Check.same("what is compiled takes none", forth.count(1), 2);
    }

    private static void stepsOfTheLatestText() {
        Check.sentence("at most 600 in a text");
        StackForth forth = Check.after(taking(600), "F", "F", "F");
        Check.same("each text has its own", forth.count(1), 600);
        Check.text(forth, "1");
        Check.same("one", forth.count(1), 1);
        Check.text(forth, "");
        Check.same("none", forth.count(1), 0);
        Check.textFails(forth, "F 1", STEPS);
        Check.text(forth, "F");
        Check.same("after it threw", forth.count(1), 600);
    }

    private static void endless() {
        Check.sentence("UnsupportedOperationException, when the steps are used up");
        for (String words : new String[] {"BEGIN AGAIN", "BEGIN 0 UNTIL", "BEGIN 1 WHILE REPEAT", "0 0 DO LOOP",
            "BEGIN 1 . AGAIN", "BEGIN B AGAIN", "BEGIN 1 IF ELSE THEN AGAIN"}) {
            StackForth forth = Check.after(": B ; : A " + words + " ;");
            Check.textFails(forth, "A", STEPS);
            Check.same(words + ": steps", forth.count(1), 600);
        }
        StackForth forth = Check.after(": A BEGIN 7 . AGAIN ;");
        Check.textFails(forth, "A", STEPS);
        Check.same("what was said stays", forth.said(), 200);
        Check.same("what was said stays: saying(39)", forth.saying(39), 7);
    }

    private static void twelveDeepByRecurse() {
        Check.sentence("Definitions within one another are run at most 12 deep.");
        String recurse = ": M DUP . DUP IF 1 - RECURSE THEN ;";
        for (int n = 0; n <= 11; n++) {
            StackForth forth = Check.after(recurse, n + " M");
            Check.stack(n + " M", forth, 0);
            Check.same(n + " M: said()", forth.said(), n + 1);
        }
        for (int n : new int[] {12, 13, 30}) {
            StackForth forth = Check.after(recurse);
            Check.textFails(forth, n + " M", REFUSED);
            Check.same(n + " M: said()", forth.said(), 12);
            Check.same(n + " M: saying(0)", forth.saying(0), n - 11);
        }
        Check.textFails(new StackForth(), ": R RECURSE ; R", REFUSED);
    }

    /** N1 says 1; N2 runs N1, and so on: Nk runs k definitions within one another. */
    private static StackForth withNames(int n) {
        StackForth forth = Check.after(": N1 1 . ;");
        for (int k = 2; k <= n; k++) {
            Check.text(forth, ": N" + k + " N" + (k - 1) + " " + k + " . ;");
        }
        return forth;
    }

    private static void twelveDeepByNames() {
        Check.sentence("Definitions within one another are run at most 12 deep.");
        StackForth forth = withNames(14);
        for (int k = 1; k <= 12; k++) {
            Check.text(forth, "N" + k);
            Check.same("N" + k + ": said()", forth.said(), k);
            Check.same("N" + k + ": saying(0)", forth.saying(0), k);
        }
        for (int k = 13; k <= 14; k++) {
            Check.textFails(forth, "1 >R 5 N" + k, REFUSED);
            Check.same("N" + k + ": said()", forth.said(), 0);
        }
    }

    private static void twelveDeepWithVariables() {
        Check.sentence("a definition is RUN .. a definition with one operation, its number");
        for (String defined : new String[] {"VARIABLE X VARIABLE V", "1 CONSTANT V", ": V 1 ;"}) {
            String recurse = ": M DUP IF 1 - RECURSE ELSE V THEN ;";
            StackForth forth = Check.after(defined, recurse, "10 M");
            Check.stack("V is the 12th", forth, 0, 1);
            Check.textFails(forth, "11 M", REFUSED);
        }
    }

    private static void deepAgainAndAgain() {
        Check.sentence("Definitions within one another are run at most 12 deep.");
        StackForth forth = withNames(11);
        Check.text(forth, ": A N11 N11 N11 ; A");
        Check.same("one behind the other", forth.said(), 33);
        Check.text(forth, "N11 N11 : N12 N11 EXIT ; N12 N12");
        Check.same("word by word", forth.said(), 44);
        Check.text(forth, ": E 1 IF EXIT THEN ; : L 30 0 DO E LOOP ; L");
        Check.same("EXIT comes back too", forth.count(1), 155);
        Check.text(forth, ": B 10 0 DO N1 N2 LOOP ; B");
        Check.same("within a loop", forth.said(), 30);
    }

    private static void deepAfterThrowing() {
        Check.sentence("When it throws, what was done before stays");
        StackForth forth = withNames(13);
        Check.text(forth, ": T DUP IF 1 - RECURSE ELSE 1 0 / THEN ;");
        for (int i = 0; i < 15; i++) {
            Check.textFails(forth, "N13", REFUSED);
            Check.textFails(forth, "5 T", ArithmeticException.class);
        }
        Check.text(forth, "N12");
        Check.same("12 deep again", forth.said(), 12);
    }
}
