import java.util.NoSuchElementException;

/**
 * The boundary cases that stand under "INTERPRETING". That the space has no cell left can't be
 * seen: there are 64 cells, and at most 40 definitions.
 */
public final class InterpretingEdgeTest {
    private static final Class<NoSuchElementException> UNKNOWN = NoSuchElementException.class;
    private static final Class<IllegalArgumentException> WRONG = IllegalArgumentException.class;
    private static final Class<IllegalStateException> REFUSED = IllegalStateException.class;
    private static final Class<IndexOutOfBoundsException> OUTSIDE = IndexOutOfBoundsException.class;

    public static void main(String[] args) {
        noNameThere();
        nameBeforeRoomBeforeNumber();
        variablesTakeTheNextCell();
        constantsTakeTheTop();
        whileNothingIsCompiled();
        whileSomethingIsCompiled();
        whatLiesWithinOneAnother();
        whatDoesNot();
        openAt8();
        openAtEightInTheMiddle();
        elseOpensNothingMore();
        closingMakesRoom();
        nothingOpenAtTheEnd();
        inTheDictionaryFromItsEndOn();
        operationsUpTo60();
        placesBehind60();
        theLastOneIsAnOperation();
        aNewDefinitionBeginsWithNone();
        wordsActInTheirOrder();
        unknownWords();
        conditionsOnBothSides();
        loopsOnBothSides();
        Check.end("InterpretingEdgeTest");
    }

    private static void noNameThere() {
        Check.sentence("a name that there is none behind \":\", or is too long");
        for (String text : new String[] {":", " : ", "1 . :", "VARIABLE", "VARIABLE  ", "5 CONSTANT", "CONSTANT"}) {
            StackForth forth = new StackForth();
            Check.textFails(forth, text, WRONG);
            Check.counts(text, forth, 0);
            Check.same(text + ": count(4)", forth.count(4), 0);
            Check.textFails(forth, "A", UNKNOWN);
        }
        StackForth forth = Check.after(": A");
        Check.holds(": A", forth.compiling());
        Check.same("a name of 7", Check.text(new StackForth(), ": SEVENCH"), 2);
        Check.textFails(new StackForth(), ": EIGHTCHS", WRONG);
        Check.textFails(new StackForth(), ": EIGHTCHS FOO", WRONG);
    }

    private static void nameBeforeRoomBeforeNumber() {
        Check.sentence("(The name is looked at first, then whether there is room.)");
        StackForth forth = new StackForth();
        Check.textFails(forth, "CONSTANT", WRONG);
        Check.textFails(forth, "CONSTANT EIGHTCHS", WRONG);
        Check.textFails(forth, "CONSTANT SEVENCH", REFUSED);
        Check.textFails(forth, "1 CONSTANT EIGHTCHS", WRONG);
        Check.text(forth, "1 CONSTANT SEVENCH");
        for (int i = 1; i < 39; i++) {
            Check.text(forth, ": A ;");
        }
        Check.textFails(forth, "CONSTANT C", REFUSED);
        Check.text(forth, "1 CONSTANT C");
        Check.textFails(forth, "CONSTANT C", WRONG);
        Check.textFails(forth, "1 CONSTANT C", WRONG);
        Check.textFails(forth, "CONSTANT", WRONG);
        Check.textFails(forth, ": EIGHTCHS", WRONG);
        Check.textFails(forth, ": B FOO", WRONG);
        Check.same("count(0)", forth.count(0), 40);
    }

    private static void variablesTakeTheNextCell() {
        Check.sentence("VARIABLE and a name: the next cell of the space, from 0 on, is the variable's");
        StackForth forth = new StackForth();
        for (int i = 0; i < 40; i++) {
            Check.same("cells before", forth.count(4), i);
            Check.text(forth, "VARIABLE V V");
            Check.same("its cell", forth.top(0), i);
            Check.text(forth, "DROP");
            Check.same("operations", forth.definition(i, 0), 1);
            Check.same("loads", forth.definition(i, 1), 0);
            Check.same("stores", forth.definition(i, 2), 1);
        }
        Check.textFails(forth, "VARIABLE W", WRONG);
        Check.same("cells", forth.count(4), 40);
        forth = Check.after("7 0 ! 8 1 ! VARIABLE V VARIABLE W V @ W @");
        Check.stack("a cell keeps what it has", forth, 7, 8);
        forth = Check.after("VARIABLE V");
        Check.textFails(forth, "VARIABLE EIGHTCHS", WRONG);
        Check.textFails(forth, "VARIABLE", WRONG);
        Check.text(forth, "VARIABLE W W");
        Check.stack("what was refused took no cell", forth, 1);
    }

    private static void constantsTakeTheTop() {
        Check.sentence("CONSTANT and a name ( n -- ): one with the operation n");
        StackForth forth = Check.after("1 2 CONSTANT C");
        Check.stack("n is gone", forth, 1);
        Check.text(forth, "CONSTANT D");
        Check.stack("the last number", forth);
        Check.textFails(forth, "CONSTANT E", REFUSED);
        Check.textFails(forth, "5 >R CONSTANT E", REFUSED);
        Check.text(forth, "C D");
        Check.stack("their numbers", forth, 2, 1);
        Check.same("count(0)", forth.count(0), 2);
        for (int what = 0; what < 3; what++) {
            Check.same("definition(1, " + what + ")", forth.definition(1, what), what == 1 ? 0 : 1);
        }
        forth = Check.withNumbers(24);
        Check.text(forth, "CONSTANT C C");
        Check.same("of a full stack", forth.top(0), 24);
        Check.same("of a full stack: depth()", forth.depth(), 24);
        Check.gives("-2147483 1000 * 648 - CONSTANT C C 65536 32767 * CONSTANT D D", Integer.MIN_VALUE, 2147418112);
    }

    private static void whileNothingIsCompiled() {
        Check.sentence("what does not fit (\";\" or IF and so on while nothing is compiled)");
        for (String word : "; IF ELSE THEN BEGIN UNTIL AGAIN WHILE REPEAT DO LOOP EXIT RECURSE".split(" ")) {
            StackForth forth = Check.after("1 2 3 4 5 >R");
            Check.textFails(forth, word, WRONG);
            Check.textFails(forth, ": A 1 ; 5 . " + word, WRONG);
            Check.same(word + ": what was done before", forth.saying(0), 5);
            Check.counts(word, forth, 1, 2);
        }
        for (String word : "IF EXIT RECURSE BEGIN DO".split(" ")) {
            StackForth forth = Check.after(": A " + word);
            Check.holds(word + " fits while something is", forth.compiling());
        }
    }

    private static void whileSomethingIsCompiled() {
        Check.sentence("\":\" , VARIABLE, CONSTANT while something is");
        for (String words : new String[] {":", ": B", "VARIABLE", "VARIABLE B", "CONSTANT", "CONSTANT B"}) {
            StackForth forth = Check.after("7 8 : A 1");
            Check.textFails(forth, words, WRONG);
            Check.counts(words, forth, 0);
            Check.same(words + ": count(4)", forth.count(4), 0);
            forth = Check.after("7 8 : A 1");
            Check.textFails(forth, "; 9 . : C " + words, WRONG);
            Check.counts(words + " behind a whole one", forth, 1);
            Check.same("what was done before", forth.said(), 1);
        }
        StackForth forth = Check.after(": A 1 ; : B 2 ; VARIABLE C 3 CONSTANT D");
        Check.counts("they fit behind ;", forth, 4);
    }

    private static void whatLiesWithinOneAnother() {
        Check.sentence("the words below, which must lie within one another");
        for (String words : new String[] {"IF THEN", "IF ELSE THEN", "BEGIN UNTIL", "BEGIN AGAIN",
            "BEGIN WHILE REPEAT", "DO LOOP", "IF IF THEN THEN", "IF IF THEN ELSE IF THEN THEN",
            "IF BEGIN UNTIL ELSE DO LOOP THEN", "BEGIN IF THEN WHILE IF ELSE THEN REPEAT",
            "BEGIN BEGIN WHILE REPEAT WHILE BEGIN WHILE REPEAT REPEAT", "DO IF BEGIN WHILE DO LOOP REPEAT THEN LOOP",
            "BEGIN BEGIN UNTIL UNTIL", "BEGIN BEGIN AGAIN AGAIN", "DO DO LOOP LOOP", "IF EXIT THEN RECURSE",
            "BEGIN WHILE BEGIN UNTIL REPEAT", "BEGIN WHILE BEGIN AGAIN REPEAT", "IF THEN IF THEN"}) {
            StackForth forth = Check.after(": A " + words + " ;");
            Check.counts(words, forth, 1);
            Check.holds(words + " has an end", !forth.compiling());
        }
    }

    private static void whatDoesNot() {
        Check.sentence("the words below, which must lie within one another");
        String[] opened = {"", "IF ", "IF ELSE ", "BEGIN ", "BEGIN WHILE ", "DO "};
        String[] closing = {"ELSE", "THEN", "UNTIL", "AGAIN", "WHILE", "REPEAT", "LOOP", ";"};
        String[] fitting = {";", "ELSE THEN", "THEN", "UNTIL AGAIN WHILE", "REPEAT", "LOOP"};
        for (int i = 0; i < opened.length; i++) {
            for (String word : closing) {
                boolean fits = (" " + fitting[i] + " ").contains(" " + word + " ");
                for (String outer : new String[] {"", "IF ", "BEGIN ", "DO "}) {
                    if (i == 0 && !outer.isEmpty()) {
                        continue;
                    }
                    StackForth forth = Check.after("1 2 : A " + outer + "1 " + opened[i] + "2 ");
                    if (fits) {
                        Check.same(outer + opened[i] + word, Check.text(forth, word), 1);
                    } else {
                        Check.textFails(forth, word, WRONG);
                        Check.counts(outer + opened[i] + word, forth, 0);
                    }
                }
            }
        }
    }

    private static void openAt8() {
        Check.sentence("a row of what is OPEN, at most 8");
        String[] opens = {"IF ", "BEGIN ", "DO ", "IF ELSE "};
        String[] closes = {"THEN ", "AGAIN ", "LOOP ", "THEN "};
        for (int i = 0; i < opens.length; i++) {
            StackForth forth = Check.after(": A " + opens[i].repeat(7));
            Check.text(forth, opens[i]);
            Check.text(forth, closes[i].repeat(8) + ";");
            Check.counts("8 times " + opens[i], forth, 1);
            for (String ninth : new String[] {"IF", "BEGIN", "DO"}) {
                forth = Check.after("1 2 : B " + opens[i].repeat(8));
                Check.holds("8 are open", forth.compiling());
                Check.textFails(forth, ninth, WRONG);
                Check.counts("8 times " + opens[i] + ", then " + ninth, forth, 0);
            }
        }
    }

    private static void openAtEightInTheMiddle() {
        Check.sentence("WHILE ( f -- ), within BEGIN (both are open then)");
        StackForth forth = Check.after(": A " + "BEGIN WHILE ".repeat(4));
        Check.textFails(forth, "BEGIN", WRONG);
        forth = Check.after(": A " + "BEGIN WHILE ".repeat(4) + "REPEAT ".repeat(4) + ";");
        Check.counts("four pairs", forth, 1);
        Check.same("four pairs: operations", forth.definition(0, 0), 9);
        forth = Check.after(": A " + "IF ".repeat(6) + "BEGIN");
        Check.text(forth, "WHILE REPEAT " + "THEN ".repeat(6) + ";");
        Check.counts("WHILE as the eighth", forth, 1);
        forth = Check.after(": A " + "IF ".repeat(7) + "BEGIN");
        Check.textFails(forth, "WHILE", WRONG);
        forth = Check.after(": A " + "IF ".repeat(7) + "BEGIN");
        Check.text(forth, "UNTIL " + "THEN ".repeat(7) + ";");
        Check.counts("BEGIN as the eighth", forth, 1);
    }

    private static void elseOpensNothingMore() {
        Check.sentence("ELSE: it goes on behind the THEN.");
        StackForth forth = Check.after(": A " + "IF ".repeat(8) + "1 " + "ELSE 2 THEN ".repeat(8) + ";");
        Check.counts("eight with ELSE", forth, 1);
        Check.text(forth, "1 1 1 1 1 1 1 1 A");
        Check.stack("all eight hold", forth, 1);
        Check.text(forth, "DROP 1 1 1 1 0 1 1 1 A");
        Check.stack("one does not", forth, 1, 1, 1, 1, 2);
    }

    private static void closingMakesRoom() {
        Check.sentence("a row of what is OPEN, at most 8");
        StackForth forth = Check.after(": A " + "IF ".repeat(7) + "IF THEN BEGIN UNTIL DO LOOP BEGIN AGAIN "
                + "IF ELSE THEN " + "THEN ".repeat(7) + ";");
        Check.counts("seven, and one more again and again", forth, 1);
        forth = Check.after(": A " + "DO ".repeat(8));
        Check.textFails(forth, "FOO", UNKNOWN);
        Check.text(forth, ": A " + "IF ".repeat(8) + "THEN ".repeat(8) + ";");
        Check.counts("what was open was dropped", forth, 1);
    }

    private static void nothingOpenAtTheEnd() {
        Check.sentence("\";\" is its last one (it ends): nothing may be open");
        for (String words : new String[] {"IF", "IF ELSE", "BEGIN", "BEGIN WHILE", "DO", "IF THEN BEGIN"}) {
            StackForth forth = Check.after(": A " + words);
            Check.textFails(forth, ";", WRONG);
            Check.counts(words, forth, 0);
            Check.textFails(forth, "A", UNKNOWN);
        }
        Check.counts("nothing is", Check.after(": A IF THEN ;"), 1);
        Check.counts("nothing at all", Check.after(": A ;"), 1);
        Check.gives("4 : A ; A", 4);
    }

    private static void inTheDictionaryFromItsEndOn() {
        Check.sentence("it is in the dictionary from then on (not before), with its name");
        Check.textFails(new StackForth(), ": A 1 A ;", UNKNOWN);
        StackForth forth = Check.after(": A 1");
        Check.counts("before", forth, 0);
        Check.fails("before", OUTSIDE, () -> forth.definition(0, 0));
        Check.text(forth, ";");
        Check.counts("then", forth, 1);
        Check.same("then", forth.definition(0, 0), 2);
        Check.text(forth, "A : A 2 A ; A");
        Check.stack("the one before within the new one", forth, 1, 2, 1);
        Check.textFails(forth, ": A 3 FOO", UNKNOWN);
        Check.text(forth, "A");
        Check.stack("a dropped one never came", forth, 2, 1);
        Check.gives(": A DUP IF 1 - RECURSE THEN ; : B 5 ; 2 A", 0);
        Check.gives(": A 1 ; : A DUP 0= IF EXIT THEN 1 - RECURSE 7 ; 2 A", 0, 7, 7);
    }

    /** Words with something before them, so that they fit, and how many operations that takes. */
    private static final String[] OPERATIONS = {"1", "DUP", "+", "D", "V", "EXIT", "RECURSE", "IF", "DO", ".",
        "IF:ELSE", "BEGIN:UNTIL", "BEGIN:AGAIN", "BEGIN:WHILE", "BEGIN WHILE:REPEAT", "DO:LOOP", ":;"};

    private static StackForth withOperations(String before, int n) {
        StackForth forth = Check.after(": D ; VARIABLE V : A " + before);
        int there = before.equals("IF") || before.equals("DO") || before.equals("BEGIN WHILE") ? 1 : 0;
        Check.text(forth, "1 ".repeat(n - there));
        return forth;
    }

    private static void operationsUpTo60() {
        Check.sentence("Of operations there may be 60 in a definition.");
        for (String operation : OPERATIONS) {
            int colon = operation.indexOf(':');
            String before = colon < 0 ? "" : operation.substring(0, colon);
            String word = operation.substring(colon + 1);
            StackForth forth = withOperations(before, 59);
            Check.same(word + " as the 60th", Check.text(forth, word), 1);
            forth = withOperations(before, 60);
            Check.textFails(forth, word, WRONG);
            Check.counts(word + " as the 61st", forth, 2);
        }
        StackForth forth = withOperations("", 59);
        Check.text(forth, ";");
        Check.same("60 operations", forth.definition(2, 0), 60);
        Check.fails("60 numbers are put on the stack", REFUSED, () -> Check.text(forth, "A"));
        Check.text(forth, ": B " + "1 DROP ".repeat(20));
        Check.text(forth, "1 DROP ".repeat(9) + "7 ; B");
        Check.stack("60 operations are done", forth, 7);
        Check.same("60 operations are done", forth.count(1), 61);
    }

    private static void placesBehind60() {
        Check.sentence("THEN, BEGIN are no operations.");
        StackForth forth = withOperations("IF", 60);
        Check.same("THEN behind 60", Check.text(forth, "THEN"), 1);
        Check.same("BEGIN behind 60", Check.text(forth, "BEGIN BEGIN"), 2);
        Check.textFails(forth, ";", WRONG);
        forth = withOperations("", 60);
        Check.textFails(forth, "BEGIN UNTIL", WRONG);
        forth = Check.after(": A BEGIN BEGIN BEGIN UNTIL UNTIL UNTIL IF THEN ;");
        Check.same("operations", forth.definition(0, 0), 5);
        forth = withOperations("IF", 59);
        Check.text(forth, "THEN ;");
        Check.same("60 with THEN", forth.definition(2, 0), 60);
    }

    private static void theLastOneIsAnOperation() {
        Check.sentence("a definition would be the 41st or have a 61st operation");
        StackForth forth = withOperations("", 60);
        Check.holds("60 without its last one", forth.compiling());
        Check.textFails(forth, ";", WRONG);
        Check.counts("it did not come", forth, 2);
        Check.textFails(forth, "A", UNKNOWN);
        forth = withOperations("", 60);
        Check.textFails(forth, "FOO", UNKNOWN);
        forth = withOperations("", 60);
        Check.textFails(forth, "THEN", WRONG);
    }

    private static void aNewDefinitionBeginsWithNone() {
        Check.sentence("Of operations there may be 60 in a definition.");
        StackForth forth = withOperations("", 60);
        Check.textFails(forth, "1", WRONG);
        Check.text(forth, ": A " + "1 ".repeat(59));
        Check.text(forth, "; : B " + "2 ".repeat(59));
        Check.text(forth, ";");
        Check.same("A", forth.definition(2, 0), 60);
        Check.same("B", forth.definition(3, 0), 60);
    }

    private static void wordsActInTheirOrder() {
        Check.sentence("Words act in the order of the text");
        StackForth forth = new StackForth();
        Check.textFails(forth, "1 . 2 . FOO THEN 0 0 / 3 .", UNKNOWN);
        Check.same("said()", forth.said(), 2);
        Check.textFails(forth, "1 . THEN FOO", WRONG);
        Check.textFails(forth, "1 . + FOO THEN", REFUSED);
        Check.textFails(forth, "1 0 / + FOO THEN", ArithmeticException.class);
        Check.textFails(forth, ": A 1 . ; A : B THEN FOO", WRONG);
        Check.counts("A came", forth, 1, 4);
        Check.textFails(forth, "A A : B FOO THEN", UNKNOWN);
        Check.same("A was run twice", forth.said(), 2);
    }

    private static void unknownWords() {
        Check.sentence("NoSuchElementException, when a word is none of these");
        for (String word : ("VARIABLES CONSTANTX VARIABL CONSTAN dup Dup DU DUPP SWAPP FOO NUMBER CALL 2+ 1- 2OVER R"
                + " @@ ;; :: ( \\ .\" J +LOOP CR").split(" ")) {
            Check.textFails(new StackForth(), "1 2 3 " + word, UNKNOWN);
            Check.textFails(Check.after("1 2 3 >R : A 1"), word, UNKNOWN);
        }
    }

    private static void conditionsOnBothSides() {
        Check.sentence("IF ( f -- ): if f is 0, it goes on behind its ELSE or THEN.");
        for (String f : "1 -1 2 999999999".split(" ")) {
            Check.gives(": A IF 5 ELSE 6 THEN 7 ; " + f + " A", 5, 7);
            Check.gives(": A IF 5 THEN 7 ; " + f + " A", 5, 7);
            Check.gives(": A BEGIN 5 SWAP UNTIL 7 ; 0 " + f + " A", 0, 5, 7);
            Check.gives(": A BEGIN WHILE 5 SWAP REPEAT 7 ; 0 " + f + " A", 5, 7);
        }
        Check.gives(": A IF 5 ELSE 6 THEN 7 ; 0 A", 6, 7);
        Check.gives(": A IF 5 THEN 7 ; 0 A", 7);
        Check.gives(": A BEGIN 5 SWAP UNTIL 7 ; 3 0 A", 3, 5, 7);
        Check.gives(": A BEGIN WHILE 5 SWAP REPEAT 7 ; 3 0 A", 3, 7);
        for (String words : new String[] {"IF THEN", "BEGIN UNTIL", "BEGIN WHILE REPEAT"}) {
            Check.text(Check.after(": A " + words + " ;"), "0 1 A");
            Check.textFails(new StackForth(), ": A " + words + " ; A", REFUSED);
        }
    }

    private static void loopsOnBothSides() {
        Check.sentence("DO ( m s -- ), LOOP: the top there grows by 1, and if it is not what is below it then, back");
        Check.gives(": A 1 0 DO I LOOP ; A", 0);
        Check.gives(": A 2 0 DO I LOOP ; A", 0, 1);
        Check.textFails(new StackForth(), ": A 0 0 DO LOOP ; A", UnsupportedOperationException.class);
        Check.textFails(new StackForth(), ": A 0 1 DO LOOP ; A", UnsupportedOperationException.class);
        Check.textFails(new StackForth(), ": A DO LOOP ; A", REFUSED);
        Check.textFails(new StackForth(), ": A DO LOOP ; 1 A", REFUSED);
        Check.textFails(new StackForth(), ": A 1 DO LOOP ; A", REFUSED);
        StackForth forth = Check.after("9 >R : A DO LOOP I ; 1 0 A");
        Check.stack("both are gone", forth, 9);
        Check.same("both are gone", forth.count(5), 1);
    }
}
