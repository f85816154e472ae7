import java.util.NoSuchElementException;

/** The boundary cases that stand under "Terms", each sentence with a test on both sides of its boundary. */
public final class TermsEdgeTest {
    private static final Class<NoSuchElementException> UNKNOWN = NoSuchElementException.class;
    private static final Class<IllegalArgumentException> WRONG = IllegalArgumentException.class;
    private static final Class<IllegalStateException> REFUSED = IllegalStateException.class;
    private static final Class<ArithmeticException> DIVIDED = ArithmeticException.class;
    private static final Class<IndexOutOfBoundsException> OUTSIDE = IndexOutOfBoundsException.class;
    private static final int MOST = Integer.MAX_VALUE;
    private static final int LEAST = Integer.MIN_VALUE;
    private static final String EXTREMES =
            "2147483 1000 * 647 + CONSTANT MOST -2147483 1000 * 648 - CONSTANT LEAST";

    public static void main(String[] args) {
        numbersWrap();
        numbersWrapInCells();
        numbersWrapInLoops();
        extremesAreCompared();
        stackOf24();
        stackOf24InDefinitions();
        whatDoesNotGrowFitsInto24();
        returnStackOf24();
        returnStackOf24ForDo();
        returnStackWithNothing();
        space();
        textOf160();
        charactersOfATextAreKept();
        characters();
        wordsBetweenSpaces();
        names();
        namesAreWholeWords();
        dictionaryOf40();
        droppedDefinitionsTakeNoRoom();
        latestDefinitionCounts();
        definitionsBeforeBuiltInBeforeNumbers();
        numbersOfNineDigits();
        division();
        depthOfNone();
        latest40Said();
        Check.end("TermsEdgeTest");
    }

    /** The words must leave the same on the stack when they are interpreted and when they are compiled. */
    private static void both(String words, int... due) {
        StackForth interpreted = Check.after(EXTREMES, words);
        Check.stack(words, interpreted, due);
        StackForth compiled = Check.after(EXTREMES, ": T " + words + " ; T");
        Check.stack(": T " + words + " ; T", compiled, due);
    }

    private static void numbersWrap() {
        Check.sentence("NUMBERS are ints that wrap.");
        both("MOST LEAST", MOST, LEAST);
        both("MOST 1 - 1+", MOST);
        both("MOST 1+", LEAST);
        both("MOST 0 +", MOST);
        both("MOST 1 +", LEAST);
        both("MOST MOST +", -2);
        both("LEAST -1 +", MOST);
        both("LEAST 0 -", LEAST);
        both("LEAST 1 -", MOST);
        both("MOST -1 -", LEAST);
        both("46340 46340 *", 2147395600);
        both("46341 46341 *", -2147479015);
        both("65536 32767 *", 2147418112);
        both("65536 32768 *", LEAST);
        both("65536 65536 *", 0);
        both("LEAST 1+ NEGATE", MOST);
        both("LEAST NEGATE", LEAST);
        both("LEAST 1+ ABS", MOST);
        both("LEAST ABS", LEAST);
        both("LEAST 1+ -1 /", MOST);
        both("LEAST -1 /", LEAST);
        both("LEAST -1 MOD", 0);
        both("LEAST MOST MOD", -1);
        both("LEAST INVERT MOST INVERT", MOST, LEAST);
    }

    private static void numbersWrapInCells() {
        Check.sentence("NUMBERS are ints that wrap: n is added to cell k.");
        for (String words : new String[] {"MOST 1 - 5 ! 1 5 +!", ": A MOST 1 - 5 ! 1 5 +! ; A"}) {
            Check.same(words, Check.after(EXTREMES, words).cell(5), MOST);
        }
        for (String words : new String[] {"MOST 5 ! 1 5 +!", ": A MOST 5 ! 1 5 +! ; A"}) {
            Check.same(words, Check.after(EXTREMES, words).cell(5), LEAST);
        }
        for (String words : new String[] {"LEAST 5 ! -1 5 +!", ": A LEAST 5 ! -1 5 +! ; A"}) {
            Check.same(words, Check.after(EXTREMES, words).cell(5), MOST);
        }
    }

    private static void numbersWrapInLoops() {
        Check.sentence("LOOP: the top there grows by 1");
        Check.stack("MOST", Check.after(EXTREMES, ": A MOST MOST 1 - DO I LOOP ; A"), MOST - 1);
        Check.stack("LEAST", Check.after(EXTREMES, ": A LEAST MOST DO I LOOP ; A"), MOST);
        Check.stack("LEAST + 1", Check.after(EXTREMES, ": A LEAST 1+ MOST DO I LOOP ; A"), MOST, LEAST);
        Check.stack("-1 to 1", Check.after(": A 1 -1 DO I LOOP ; A"), -1, 0);
    }

    private static void extremesAreCompared() {
        Check.sentence("< = > (-1 or 0)");
        both("LEAST MOST < MOST LEAST < LEAST LEAST <", -1, 0, 0);
        both("LEAST MOST > MOST LEAST > MOST MOST >", 0, -1, 0);
        both("LEAST MOST = LEAST LEAST = MOST MOST =", 0, -1, -1);
        both("-1 0 < 0 0 < 1 0 < -1 0 > 0 0 > 1 0 >", -1, 0, 0, 0, 0, -1);
        both("LEAST MOST MIN LEAST MOST MAX", LEAST, MOST);
        both("LEAST 0< -1 0< 0 0< 1 0< MOST 0<", -1, -1, 0, 0, 0);
        both("LEAST 0= -1 0= 0 0= 1 0= MOST 0=", 0, 0, -1, 0, 0);
    }

    /** Growing words with how much they let the stack grow. */
    private static final String[] GROW_BY_1 = "7 -7 DUP OVER TUCK DEPTH R> R@ I V C".split(" ");
    private static final String[] GROW_BY_2 = {"2DUP"};

    private static StackForth forGrowing(int n) {
        StackForth forth = Check.after("VARIABLE V 8 CONSTANT C 9 >R");
        for (int i = 0; i < n; i++) {
            Check.text(forth, "5");
        }
        return forth;
    }

    private static void stackOf24() {
        Check.sentence("The STACK has at most 24 numbers");
        for (String word : GROW_BY_1) {
            StackForth forth = forGrowing(23);
            Check.same(word + " as the 24th", Check.text(forth, word), 1);
            Check.same(word + " as the 24th: depth()", forth.depth(), 24);
            Check.textFails(forGrowing(24), word, REFUSED);
        }
        for (String word : GROW_BY_2) {
            StackForth forth = forGrowing(22);
            Check.same(word + " on 22", Check.text(forth, word), 1);
            Check.same(word + " on 22: depth()", forth.depth(), 24);
            Check.textFails(forGrowing(23), word, REFUSED);
            Check.textFails(forGrowing(24), word, REFUSED);
        }
    }

    private static void stackOf24InDefinitions() {
        Check.sentence("The STACK has at most 24 numbers");
        for (String word : GROW_BY_1) {
            String text = ": T " + word + " ; T";
            StackForth forth = forGrowing(23);
            Check.text(forth, text);
            Check.same(text + " as the 24th: depth()", forth.depth(), 24);
            Check.textFails(forGrowing(24), text, REFUSED);
        }
        for (String word : GROW_BY_2) {
            String text = ": T " + word + " ; T";
            StackForth forth = forGrowing(22);
            Check.text(forth, text);
            Check.same(text + " on 22: depth()", forth.depth(), 24);
            Check.textFails(forGrowing(23), text, REFUSED);
        }
    }

    private static void whatDoesNotGrowFitsInto24() {
        Check.sentence("The STACK has at most 24 numbers");
        for (String word : "NEGATE INVERT ABS 1+ 0= 0< SWAP ROT @".split(" ")) {
            StackForth forth = Check.withNumbers(24);
            Check.text(forth, word + " : T " + word + " ; T");
            Check.same(word + " on 24: depth()", forth.depth(), 24);
        }
        for (String word : "+ - * / MOD AND OR XOR MIN MAX < = > DROP NIP >R .".split(" ")) {
            StackForth forth = Check.withNumbers(24);
            Check.text(forth, ": T " + word + " ; T");
            Check.same(word + " on 24: depth()", forth.depth(), 23);
        }
        for (String word : "! +! 2DROP".split(" ")) {
            StackForth forth = Check.withNumbers(24);
            Check.text(forth, ": T " + word + " ; T");
            Check.same(word + " on 24: depth()", forth.depth(), 22);
        }
    }

    private static void returnStackOf24() {
        Check.sentence("the RETURN STACK 24");
        StackForth forth = Check.withReturns(23);
        Check.text(forth, "5 >R");
        Check.same("the 24th", forth.count(5), 24);
        Check.text(forth, "R@");
        Check.stack("its top", forth, 5);
        Check.textFails(Check.withReturns(24), "5 >R", REFUSED);
        forth = Check.withReturns(23);
        Check.text(forth, ": T 5 >R ; T");
        Check.same("the 24th in a definition", forth.count(5), 24);
        Check.textFails(Check.withReturns(24), ": T 5 >R ; T", REFUSED);
        forth = Check.withReturns(24);
        for (int i = 24; i > 0; i--) {
            Check.text(forth, "R> .");
            Check.same("all 24 come back", forth.saying(0), i);
        }
    }

    private static void returnStackOf24ForDo() {
        Check.sentence("DO ( m s -- ): m, then s go to the return stack");
        StackForth forth = Check.withReturns(22);
        Check.text(forth, ": T 2 0 DO I LOOP ; T");
        Check.stack("DO on 22", forth, 0, 1);
        Check.same("DO on 22", forth.count(5), 22);
        Check.textFails(Check.withReturns(23), ": T 2 0 DO I LOOP ; T", REFUSED);
        Check.textFails(Check.withReturns(24), ": T 2 0 DO I LOOP ; T", REFUSED);
        String twelve = ": T " + "1 0 DO ".repeat(6) + "U " + "LOOP ".repeat(6) + ";";
        forth = Check.after(": U 5 0 DO I LOOP ;", twelve, "T");
        Check.stack("DOs within DOs", forth, 0, 1, 2, 3, 4);
        Check.same("all of theirs are gone", forth.count(5), 0);
    }

    private static void returnStackWithNothing() {
        Check.sentence("R> ( -- n ) from it, R@ ( -- n ) its top, I the same");
        for (String word : "R> R@ I".split(" ")) {
            StackForth forth = Check.withReturns(1);
            Check.text(forth, word);
            Check.stack(word, forth, 1);
            Check.same(word + ": count(5)", forth.count(5), word.equals("R>") ? 0 : 1);
            forth = Check.withReturns(1);
            Check.text(forth, ": T " + word + " ; T");
            Check.stack(word + " in a definition", forth, 1);
            Check.textFails(new StackForth(), "5 " + word, REFUSED);
            Check.textFails(new StackForth(), ": T 5 " + word + " ; T", REFUSED);
        }
        Check.sentence("LOOP: the top there grows by 1, and if it is not what is below it then, back");
        Check.gives(": T 3 2 DO R> R> SWAP >R >R R> R> SWAP >R >R LOOP 7 ; T", 7);
        Check.textFails(new StackForth(), ": T 3 2 DO R> DROP LOOP ; T", REFUSED);
        Check.textFails(new StackForth(), ": T 3 2 DO R> R> 2DROP LOOP ; T", REFUSED);
    }

    private static void space() {
        Check.sentence("the SPACE 64 cells, 0 at first");
        StackForth forth = new StackForth();
        for (int k = 0; k < 64; k++) {
            Check.text(forth, k + " @ .");
            Check.same(k + " @ at first", forth.saying(0), 0);
        }
        forth = new StackForth();
        for (int k = 0; k < 64; k++) {
            Check.text(forth, 100 + k + " " + k + " ! 1000 " + k + " +!");
        }
        for (int k = 0; k < 64; k++) {
            Check.same("cell(" + k + ")", forth.cell(k), 1100 + k);
        }
        Check.text(forth, ": F @ ; : S ! ; : P +! ;");
        for (String k : "-999999999 -1 64 65 999999999".split(" ")) {
            for (String use : "@,F,1 SWAP !,1 SWAP S,1 SWAP +!,1 SWAP P".split(",")) {
                Check.textFails(forth, k + " " + use, REFUSED);
            }
        }
        for (int k = 0; k < 64; k++) {
            Check.same("what was refused changed nothing: cell(" + k + ")", forth.cell(k), 1100 + k);
        }
        Check.text(forth, "0 F 63 F 5 0 S 6 63 S 1 0 P 1 63 P 0 F 63 F");
        Check.stack("0 and 63 in definitions", forth, 1100, 1163, 6, 7);
    }

    private static void textOf160() {
        Check.sentence("A TEXT has at most 160 characters");
        StackForth forth = new StackForth();
        for (int i = 1; i <= 19; i++) {
            Check.same("eight more", forth.write(Check.packed("1 1 + . "), 8), 8 * i);
        }
        Check.same("one more", forth.write('1', 1), 153);
        Check.fails("eight would be 161", REFUSED, () -> forth.write(Check.packed(" 1 + . ."), 8));
        Check.same("seven are 160", forth.write(Check.packed(" 1 + . "), 7), 160);
        for (int n = 1; n <= 8; n++) {
            int more = n;
            Check.fails(n + " behind 160", REFUSED, () -> forth.write(Check.packed("1 1 1 1 "), more));
        }
        Check.same("words", forth.interpret(), 80);
        Check.same("nothing of what was refused came", forth.said(), 20);
        Check.same("saying(19)", forth.saying(19), 2);
        for (int i = 0; i < 20; i++) {
            forth.write(Check.packed("        "), 8);
        }
        Check.same("160 spaces", forth.interpret(), 0);
        for (int i = 1; i <= 160; i++) {
            Check.same("one by one", forth.write(i % 2 == 1 ? '5' : ' ', 1), i);
        }
        Check.fails("the 161st", REFUSED, () -> forth.write('5', 1));
        Check.fails("80 numbers", REFUSED, forth::interpret);
    }

    private static void charactersOfATextAreKept() {
        Check.sentence("The n lowest bytes of eight come as characters behind the text, the lowest first");
        for (int n = 1; n <= 8; n++) {
            StackForth forth = new StackForth();
            Check.same("write(.., " + n + ")", forth.write(Check.packed("12345678"), n), n);
            Check.text(forth, " ");
            Check.stack("write(.., " + n + ")", forth, Integer.parseInt("12345678".substring(0, n)));
        }
    }

    private static void characters() {
        Check.sentence("33 .. 126 and spaces");
        for (int c = 0; c < 256; c++) {
            for (int at = 0; at < 8; at++) {
                StackForth forth = new StackForth();
                long eight = Check.packed("        ") & ~(255L << 8 * at) | (long) c << 8 * at;
                if (c >= 32 && c <= 126) {
                    Check.same("character " + c + " at " + at, forth.write(eight, 8), 8);
                } else {
                    Check.fails("character " + c + " at " + at, WRONG, () -> forth.write(eight, 8));
                    Check.same("nothing came: " + c + " at " + at, forth.write(' ', 1), 1);
                }
                if (at > 0) {
                    int before = at;
                    Check.same("it is above the lowest " + at, new StackForth().write(eight, before), at);
                }
            }
        }
    }

    private static void wordsBetweenSpaces() {
        Check.sentence("its WORDS are what stands between spaces");
        String[] texts = {"", " ", "1", " 1", "1 ", "  1  ", "1 1", "1  1", " 1   1 ", "1 1 1"};
        int[] due = {0, 0, 1, 1, 1, 1, 2, 2, 2, 3};
        for (int i = 0; i < texts.length; i++) {
            StackForth forth = new StackForth();
            Check.same("words of '" + texts[i] + "'", Check.text(forth, texts[i]), due[i]);
            Check.same("numbers of '" + texts[i] + "'", forth.depth(), due[i]);
        }
        StackForth forth = new StackForth();
        forth.write(Check.packed("DU"), 2);
        forth.write(Check.packed("P"), 1);
        Check.fails("a word written in two calls is one", REFUSED, forth::interpret);
        Check.textFails(new StackForth(), "D UP", UNKNOWN);
        Check.textFails(new StackForth(), "1".repeat(160), UNKNOWN);
        Check.textFails(new StackForth(), "1+1", UNKNOWN);
    }

    private static void names() {
        Check.sentence("A NAME has 1 to 7 characters (longer words are no names).");
        for (String name : new String[] {"A", "!", "~", "SEVENCH", "~!@#$%^", "1234567", "-", "DROP", "IF"}) {
            StackForth forth = Check.after(": " + name + " 41 ;");
            Check.same("count(0)", forth.count(0), 1);
            Check.text(forth, name);
            Check.stack(": " + name, forth, 41);
            forth = Check.after("VARIABLE X VARIABLE " + name, name);
            Check.stack("VARIABLE " + name, forth, 1);
            forth = Check.after("42 CONSTANT " + name, name);
            Check.stack("CONSTANT " + name, forth, 42);
        }
        for (String name : new String[] {"EIGHTCHS", "VARIABLE", "CONSTANT", "12345678", "A".repeat(140)}) {
            for (String definer : new String[] {": ", "VARIABLE ", "5 CONSTANT "}) {
                StackForth forth = new StackForth();
                Check.textFails(forth, definer + name, WRONG);
                Check.same(definer + name + ": count(0)", forth.count(0), 0);
                Check.same(definer + name + ": count(4)", forth.count(4), 0);
            }
        }
    }

    private static void namesAreWholeWords() {
        Check.sentence("A NAME has 1 to 7 characters (longer words are no names).");
        StackForth forth = Check.after(": SEVENCH 1 ; : AB 2 ;");
        for (String word : "SEVENCHS SEVENCHSX SEVENC sevench XSEVENCH A ABC BA AB~".split(" ")) {
            Check.textFails(forth, word, UNKNOWN);
        }
        Check.text(forth, "SEVENCH AB");
        Check.stack("the names themselves", forth, 1, 2);
    }

    private static StackForth withDefinitions(int n) {
        StackForth forth = new StackForth();
        for (int i = 0; i < n; i++) {
            Check.text(forth, i % 3 == 0 ? ": A 1 ;" : i % 3 == 1 ? "VARIABLE B" : i + " CONSTANT C");
        }
        return forth;
    }

    private static void dictionaryOf40() {
        Check.sentence("The DICTIONARY has at most 40 DEFINITIONS");
        String[] definers = {": N 5 ;", "VARIABLE N", "77 CONSTANT N"};
        int[] gives = {5, 13, 77};
        for (int i = 0; i < definers.length; i++) {
            StackForth forth = withDefinitions(39);
            Check.text(forth, definers[i]);
            Check.same("the 40th: count(0)", forth.count(0), 40);
            int cells = forth.count(4);
            Check.text(forth, "N");
            Check.stack("the 40th, " + definers[i], forth, gives[i]);
            for (String refused : new String[] {": M", ": A", ": M 5 ;", "VARIABLE M", "3 CONSTANT M", "CONSTANT M"}) {
                Check.textFails(forth, refused, WRONG);
                Check.same("the 41st, " + refused + ": count(0)", forth.count(0), 40);
                Check.same("the 41st, " + refused + ": count(4)", forth.count(4), cells);
            }
            Check.textFails(forth, "M", UNKNOWN);
            Check.text(forth, "N A 39 DROP");
            Check.stack("the 40 are still there", forth, gives[i], 1);
        }
        StackForth all = new StackForth();
        for (int i = 0; i < 40; i++) {
            Check.text(all, "VARIABLE V" + i);
        }
        Check.textFails(all, "VARIABLE V40", WRONG);
        Check.same("40 cells are taken", all.count(4), 40);
        for (int i = 0; i < 40; i++) {
            Check.text(all, "V" + i + " .");
            Check.same("V" + i, all.saying(0), i);
        }
    }

    private static void droppedDefinitionsTakeNoRoom() {
        Check.sentence("the definition that was compiled is dropped");
        StackForth forth = withDefinitions(39);
        for (int i = 0; i < 3; i++) {
            Check.text(forth, ": N 5");
            Check.textFails(forth, "FOO", UNKNOWN);
        }
        Check.same("count(0)", forth.count(0), 39);
        Check.text(forth, ": N 6 ; N");
        Check.stack("the 40th", forth, 6);
    }

    private static void latestDefinitionCounts() {
        Check.sentence("the latest one with a name counts");
        StackForth forth = Check.after(": A 1 ; : U A ; VARIABLE X : A 2 ; A U");
        Check.stack("the latest A, and U with the one before", forth, 2, 1);
        Check.text(forth, "2DROP 7 CONSTANT A VARIABLE U A U");
        Check.stack("of whatever kind", forth, 7, 1);
        Check.same("all of them are there", forth.count(0), 6);
        forth = Check.after(": A 1 ; : A 2 A", "; A");
        Check.stack("within its own text the one before counts", forth, 2, 1);
    }

    private static void definitionsBeforeBuiltInBeforeNumbers() {
        Check.sentence("they come before the built-in words, which come before numbers");
        Check.gives(": DUP 9 ; DUP", 9);
        Check.gives(": 5 6 ; 5 : A 5 ; A", 6, 6);
        Check.gives("3 CONSTANT -1 -1", 3);
        Check.gives(": - + ; 7 2 -", 9);
        Check.gives("VARIABLE THEN : A THEN ; A", 0);
        StackForth forth = Check.after(": VAR 1 ; : : 2 ; :");
        Check.stack(": is a definition", forth, 2);
        Check.textFails(forth, ": A", UNKNOWN);
        forth = Check.after(": A 1 ; : ; A ; ;");
        Check.stack("; is a definition", forth, 1);
        Check.text(forth, ": B ; ;");
        Check.holds("it ends no definition any more", forth.compiling());
        Check.gives("7 1+ 2 0= 1 2 2DUP 2DROP", 8, 0, 1, 2);
    }

    private static void numbersOfNineDigits() {
        Check.sentence("A number is perhaps - and then 1 to 9 digits.");
        String[] numbers = {"0", "9", "-0", "-1", "00", "999999999", "-999999999", "000000001", "-000000001",
            "123456789"};
        for (String number : numbers) {
            Check.gives(number, Integer.parseInt(number));
            Check.gives(": T " + number + " ; T", Integer.parseInt(number));
        }
        for (String word : new String[] {"0000000001", "-0000000001", "1000000000", "-1000000000", "9999999999",
            "--1", "1-", "-1-", "+1", "1.", ".1", "-a", "a", "1a", "1/2", ":1", "1:", "/1", "0x1"}) {
            Check.textFails(new StackForth(), "1 2 " + word, UNKNOWN);
            Check.textFails(new StackForth(), ": T " + word + " ;", UNKNOWN);
        }
        Check.gives("7 5 - 1", 2, 1);
        Check.textFails(new StackForth(), "-", REFUSED);
    }

    private static void division() {
        Check.sentence("/ MOD (towards 0; 0 as b is thrown)");
        both("7 1 / 7 -1 / 0 1 / 0 -1 /", 7, -7, 0, 0);
        both("7 1 MOD 7 -1 MOD 0 1 MOD 0 -1 MOD", 0, 0, 0, 0);
        both("5 6 / -5 6 / 6 6 / -6 6 / -7 6 / -7 6 MOD -7 -6 / -7 -6 MOD 7 -6 / 7 -6 MOD",
                0, 0, 1, -1, -1, -1, 1, -1, -1, 1);
        for (String word : "/ MOD".split(" ")) {
            for (String a : "0 1 -1 999999999".split(" ")) {
                Check.textFails(new StackForth(), a + " 0 " + word, DIVIDED);
                Check.textFails(new StackForth(), ": T " + a + " 0 " + word + " ; T", DIVIDED);
                Check.textFails(new StackForth(), a + " -0 : T " + word + " ; T", DIVIDED);
            }
        }
    }

    private static void depthOfNone() {
        Check.sentence("DEPTH ( -- n ), how many numbers were there");
        Check.gives("DEPTH", 0);
        Check.gives(": T DEPTH ; T", 0);
        Check.gives(": T 9 DEPTH 9 DEPTH 9 DEPTH ; T", 9, 1, 9, 3, 9, 5);
        StackForth forth = Check.withNumbers(23);
        Check.text(forth, "DEPTH");
        Check.same("on 23", forth.top(0), 23);
    }

    private static void latest40Said() {
        Check.sentence("n is SAID (the latest 40 are kept)");
        for (int n : new int[] {0, 1, 39, 40, 41, 79, 80, 81}) {
            StackForth forth = Check.after(": S BEGIN DUP . 1 - DUP 0= UNTIL DROP ;", n > 0 ? n + " S" : "");
            Check.same("said() of " + n, forth.said(), n);
            int kept = Math.min(40, n);
            for (int k = 0; k < kept; k++) {
                Check.same("saying(" + k + ") of " + n, forth.saying(k), k + 1);
            }
            for (int k : new int[] {-1, kept, kept + 1, n, n + 1}) {
                if (k < 0 || k >= kept) {
                    Check.fails("saying(" + k + ") of " + n, OUTSIDE, () -> forth.saying(k));
                }
            }
        }
    }
}
