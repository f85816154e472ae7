/** The boundary cases that stand under "REGISTER CODE": none to three held, loads that find nothing, a full stack. */
public final class RegisterEdgeTest {
    private static final Class<IllegalStateException> REFUSED = IllegalStateException.class;
    private static final Class<ArithmeticException> DIVIDED = ArithmeticException.class;

    /** Words with how many numbers they take and give. Each can be done with ones and one number to return. */
    private static final String[] EFFECTS = {"+ 2 1", "- 2 1", "* 2 1", "/ 2 1", "MOD 2 1", "AND 2 1", "OR 2 1",
        "XOR 2 1", "MIN 2 1", "MAX 2 1", "< 2 1", "= 2 1", "> 2 1", "NEGATE 1 1", "INVERT 1 1", "ABS 1 1", "1+ 1 1",
        "0= 1 1", "0< 1 1", "DUP 1 2", "DROP 1 0", "SWAP 2 2", "OVER 2 3", "ROT 3 3", "NIP 2 1", "TUCK 2 3",
        "2DUP 2 4", "2DROP 2 0", "DEPTH 0 1", "@ 1 1", "! 2 0", "+! 2 0", ">R 1 0", "R> 0 1", "R@ 0 1", "I 0 1",
        ". 1 0", "7 0 1"};

    public static void main(String[] args) {
        heldFromNoneToThree();
        theLowestIsStored();
        whereAllThatIsHeldIsStored();
        storesOfWhatIsDone();
        depthCountsWhatIsHeld();
        loadsThatFindNothing();
        loadsThatFindNothingForConditions();
        onlyWhatIsDoneIsCounted();
        nothingIsCountedOutsideOfDefinitions();
        missingBeforeDividing();
        itselfBeforeFull();
        fullWhileNumbersAreHeld();
        loadsBeforeItIsFull();
        storesBeforeItIsFull();
        sameAsIfNothingWereHeld();
        Check.end("RegisterEdgeTest");
    }

    private static String word(String effect) {
        return effect.split(" ")[0];
    }

    private static int takes(String effect) {
        return Integer.parseInt(effect.split(" ")[1]);
    }

    private static int gives(String effect) {
        return Integer.parseInt(effect.split(" ")[2]);
    }

    private static void code(String body, StackForth forth, int loads, int stores) {
        int d = forth.count(0) - 1;
        Check.same(body + ": loads in its code", forth.definition(d, 1), loads);
        Check.same(body + ": stores in its code", forth.definition(d, 2), stores);
    }

    private static void done(String what, StackForth forth, int steps, int loads, int stores) {
        Check.same(what + ": steps", forth.count(1), steps);
        Check.same(what + ": loads", forth.count(2), loads);
        Check.same(what + ": stores", forth.count(3), stores);
    }

    private static void heldFromNoneToThree() {
        Check.sentence("the top numbers are HELD in registers, from none up to three");
        for (String effect : EFFECTS) {
            for (int held = 0; held <= 5; held++) {
                int inRegisters = Math.min(3, held);
                int missing = Math.max(0, takes(effect) - inRegisters);
                int behind = inRegisters + missing - takes(effect) + gives(effect);
                int below = held - inRegisters;
                int stored = below + Math.max(0, behind - 3);
                int left = below + behind;
                String body = "1 ".repeat(held) + word(effect) + " " + "DROP ".repeat(left);
                StackForth forth = Check.after(": A " + body + ";");
                code(body, forth, missing + stored, stored);
                Check.text(forth, "1 >R " + "1 ".repeat(missing));
                Check.text(forth, "A");
                done(body, forth, held + left + 3, missing + stored, stored);
                Check.stack(body, forth);
            }
        }
    }

    private static void theLowestIsStored() {
        Check.sentence("while more than three are held, the lowest one is STORED");
        Check.gives(": A 1 2 3 ; A", 1, 2, 3);
        Check.gives(": A 1 2 3 4 ; A", 1, 2, 3, 4);
        Check.gives(": A 1 2 3 4 5 6 7 ; A", 1, 2, 3, 4, 5, 6, 7);
        Check.gives(": A 1 2 3 2DUP ; A", 1, 2, 3, 2, 3);
        Check.gives(": A 1 2 3 4 5 ROT ROT + ROT - ; A", 1, 5, 5);
        Check.gives(": A 2DUP 2DUP ROT ; 8 9 A", 8, 9, 8, 8, 9, 9);
    }

    /** X is where all must be stored; before it n numbers are held, behind it they are dropped. */
    private static void stored(String before, int loadsBefore, String x, String behind) {
        for (int n = 0; n <= 4; n++) {
            String body = before + " " + "1 ".repeat(n) + x + " " + "DROP ".repeat(n) + behind;
            StackForth forth = Check.after(": D ; VARIABLE V 1 CONSTANT C : A " + body + " ;");
            code(body, forth, loadsBefore + n, n);
        }
    }

    private static void whereAllThatIsHeldIsStored() {
        Check.sentence("Before IF, UNTIL, WHILE go on anywhere, they take their f so, and then all that is held is"
                + " stored; likewise DO its two.");
        stored("", 0, "1 IF", "THEN");
        stored("BEGIN", 0, "1 UNTIL", "");
        stored("BEGIN", 0, "1 WHILE", "REPEAT");
        stored("", 0, "1 0 DO", "LOOP");
        Check.sentence("Before ELSE, AGAIN, REPEAT, LOOP, EXIT, \";\", RECURSE or a definition is done ..,"
                + " all that is held is stored.");
        stored("IF", 1, "ELSE", "THEN");
        stored("BEGIN", 0, "AGAIN", "");
        stored("BEGIN WHILE", 1, "REPEAT", "");
        stored("DO", 2, "LOOP", "");
        for (String x : "EXIT RECURSE D V C".split(" ")) {
            stored("", 0, x, "");
        }
        for (int n = 0; n <= 4; n++) {
            code(n + " numbers", Check.after(": A " + "1 ".repeat(n) + ";"), 0, n);
        }
        Check.sentence("at the places of THEN and BEGIN, behind DO, and behind the operation of a variable or constant");
        stored("IF", 1, "THEN", "");
        stored("IF ELSE", 1, "THEN", "");
        stored("", 0, "BEGIN", "AGAIN");
        code("VARIABLE", Check.after("VARIABLE V"), 0, 1);
        code("CONSTANT", Check.after("1 CONSTANT C"), 0, 1);
    }

    private static void storesOfWhatIsDone() {
        Check.sentence("Each STORE and LOAD that is done while a text is interpreted is counted");
        for (int n = 0; n <= 4; n++) {
            String numbers = "1 ".repeat(n);
            String drops = "DROP ".repeat(n);
            StackForth forth = Check.after(": A " + numbers + "1 IF " + drops + "THEN ;", "A");
            done("IF behind " + n, forth, 2 * n + 4, n, n);
            forth = Check.after(": A " + numbers + "EXIT " + drops + ";", "A");
            done("EXIT behind " + n, forth, n + 2, 0, n);
            forth = Check.after(": D ; : A " + numbers + "D " + drops + ";", "A");
            done("a definition behind " + n, forth, 2 * n + 4, n, n);
            forth = Check.after("VARIABLE V : A " + numbers + "V " + drops + ";", "A");
            done("a variable behind " + n, forth, 2 * n + 4, n, n + 1);
            forth = Check.after(": A 2 0 DO " + numbers + "LOOP ;", "A");
            done("LOOP behind " + n, forth, 2 * n + 7, 0, 2 * n);
        }
    }

    private static void depthCountsWhatIsHeld() {
        Check.sentence("(DEPTH counts what is held.)");
        for (int there = 0; there <= 3; there++) {
            for (int held = 0; held <= 5; held++) {
                StackForth forth = Check.withNumbers(there);
                Check.text(forth, ": A " + "9 ".repeat(held) + "DEPTH ; A");
                Check.same(held + " behind " + there, forth.top(0), there + held);
            }
        }
    }

    private static void loadsThatFindNothing() {
        Check.sentence("a load that finds nothing is none");
        for (String effect : EFFECTS) {
            for (int held = 0; held <= 3; held++) {
                int wanted = takes(effect) - held;
                for (int there = 0; there < wanted; there++) {
                    String body = "1 ".repeat(held) + word(effect);
                    StackForth forth = Check.withNumbers(there);
                    Check.textFails(forth, ": A " + body + " ; A", REFUSED);
                    done(body + " on " + there, forth, held + 2, there, 0);
                }
            }
        }
    }

    private static void loadsThatFindNothingForConditions() {
        Check.sentence("a load that finds nothing is none");
        for (String words : new String[] {"IF THEN", "BEGIN UNTIL", "BEGIN WHILE REPEAT"}) {
            StackForth forth = new StackForth();
            Check.textFails(forth, ": A " + words + " ; A", REFUSED);
            done(words, forth, 2, 0, 0);
        }
        for (int there = 0; there <= 1; there++) {
            StackForth forth = Check.withNumbers(there);
            Check.textFails(forth, ": A DO LOOP ; A", REFUSED);
            done("DO on " + there, forth, 2, there, 0);
        }
        StackForth forth = new StackForth();
        Check.textFails(forth, ": A 1 DO LOOP ; A", REFUSED);
        done("1 DO", forth, 3, 0, 0);
        forth = Check.after(": A DO LOOP ;", "1 0 A");
        done("1 0 DO", forth, 6, 2, 0);
    }

    private static void onlyWhatIsDoneIsCounted() {
        Check.sentence("Each STORE and LOAD that is done while a text is interpreted is counted");
        StackForth forth = Check.after(": A IF 1 1 1 1 ELSE DROP DROP THEN ;");
        done("what is compiled is not done", forth, 0, 0, 0);
        Check.text(forth, "5 5 1 A");
        done("the first half", forth, 11, 1, 4);
        Check.text(forth, "0 A");
        done("the second half", forth, 6, 3, 0);
        Check.text(forth, "0 A 1 A");
        done("both in one text", forth, 15, 4, 4);
        Check.text(forth, "");
        done("no load or store counted before", forth, 0, 0, 0);
        Check.text(forth, ": B 3 0 DO 1+ LOOP ; B");
        done("three times", forth, 11, 3, 3);
    }

    private static void nothingIsCountedOutsideOfDefinitions() {
        Check.sentence("In a definition the top numbers are HELD in registers");
        StackForth forth = Check.after("1 2 3 4 5 + ROT 2DUP OVER SWAP >R R@ . DROP 2DROP");
        done("no definition", forth, 15, 0, 0);
        Check.text(forth, ": A ; A");
        done("an empty one", forth, 2, 0, 0);
        Check.text(forth, ": B DROP ; 1 B");
        done("one that loads", forth, 4, 1, 0);
        Check.text(forth, ": C 1 ; C");
        done("one that stores", forth, 3, 0, 1);
    }

    private static void missingBeforeDividing() {
        Check.sentence("first, when a number is missing, then what the operation itself does");
        for (String word : "/ MOD".split(" ")) {
            Check.textFails(new StackForth(), "0 " + word, REFUSED);
            Check.textFails(new StackForth(), ": A 0 " + word + " ; A", REFUSED);
            Check.textFails(new StackForth(), ": A " + word + " ; 0 A", REFUSED);
            Check.textFails(new StackForth(), "1 0 " + word, DIVIDED);
            Check.textFails(new StackForth(), ": A 0 " + word + " ; 1 A", DIVIDED);
            Check.textFails(new StackForth(), ": A " + word + " ; 1 0 A", DIVIDED);
        }
        for (String word : "! +!".split(" ")) {
            StackForth forth = Check.after("5 1 !");
            Check.textFails(forth, "1 " + word, REFUSED);
            Check.textFails(forth, ": A 1 " + word + " ; A", REFUSED);
            Check.same("1 " + word + " alone: cell(1)", forth.cell(1), 5);
        }
    }

    private static void itselfBeforeFull() {
        Check.sentence("then what the operation itself does, then, when there would be more than 24 numbers");
        for (String word : "/ MOD".split(" ")) {
            StackForth forth = Check.withNumbers(23);
            Check.textFails(forth, "0 " + word, DIVIDED);
            forth = Check.withNumbers(23);
            Check.textFails(forth, ": A 0 " + word + " ; A", DIVIDED);
            forth = Check.withNumbers(24);
            Check.textFails(forth, ": A 0 " + word + " ; A", REFUSED);
        }
        for (String word : "R> R@ I".split(" ")) {
            StackForth forth = Check.withNumbers(24);
            Check.textFails(forth, word, REFUSED);
            forth = Check.withNumbers(24);
            Check.textFails(forth, ">R 1 : A " + word + " ; A", REFUSED);
        }
    }

    private static void fullWhileNumbersAreHeld() {
        Check.sentence("it is full (also while numbers are held)");
        for (String effect : EFFECTS) {
            int more = gives(effect) - takes(effect);
            for (int held = 0; held <= 3 && more > 0; held++) {
                String body = "1 ".repeat(held) + word(effect);
                StackForth forth = Check.withReturns(1);
                Check.text(forth, ": A " + body + " ; " + "1 ".repeat(24 - held - more));
                Check.text(forth, "A");
                Check.same(body + " up to 24: depth()", forth.depth(), 24);
                forth = Check.withReturns(1);
                Check.text(forth, ": A " + body + " ; " + "1 ".repeat(25 - held - more));
                Check.textFails(forth, "A", REFUSED);
                Check.same(body + " up to 25: steps", forth.count(1), held + 2);
            }
        }
    }

    private static void loadsBeforeItIsFull() {
        Check.sentence("those of the n that are not held are LOADED .., one by one; then the m are held instead");
        String[] words = {"7", "DEPTH", "DUP", "OVER", "TUCK", "2DUP"};
        int[] loads = {0, 0, 1, 2, 2, 2};
        for (int i = 0; i < words.length; i++) {
            StackForth forth = Check.withNumbers(24);
            Check.textFails(forth, ": A " + words[i] + " ; A", REFUSED);
            done(words[i] + " on 24", forth, 2, loads[i], 0);
            forth = Check.withNumbers(23);
            Check.textFails(forth, ": A 1 " + words[i] + " ; A", REFUSED);
            done("1 " + words[i] + " on 23", forth, 3, Math.max(0, loads[i] - 1), 0);
        }
    }

    private static void storesBeforeItIsFull() {
        Check.sentence("while more than three are held, the lowest one is STORED");
        for (int room = 0; room <= 6; room++) {
            StackForth forth = Check.withNumbers(24 - room);
            Check.text(forth, ": A 1 2 3 4 5 6 7 ;");
            Check.textFails(forth, "A", REFUSED);
            done("seven numbers on " + (24 - room), forth, room + 2, 0, Math.max(0, room - 3));
        }
        StackForth forth = Check.withNumbers(17);
        Check.text(forth, ": A 1 2 3 4 5 6 7 ; A");
        done("seven numbers on 17", forth, 9, 0, 7);
        Check.same("seven numbers on 17", forth.depth(), 24);
    }

    /** Straight texts from fixed seeds, once interpreted and once compiled: the same must come of both. */
    private static void sameAsIfNothingWereHeld() {
        Check.sentence("What throws is thrown by the same operation as if nothing were held");
        java.util.Random from = new java.util.Random(4711);
        int threw = 0;
        for (int n = 0; n < 3000; n++) {
            int there = from.nextInt(25);
            StringBuilder words = new StringBuilder();
            int length = 1 + from.nextInt(18);
            for (int i = 0; i < length; i++) {
                int kind = from.nextInt(EFFECTS.length + 14);
                words.append(kind < EFFECTS.length ? word(EFFECTS[kind]) : "0").append(' ');
            }
            threw += compare(there, words.toString());
        }
        Check.holds("enough of them throw: " + threw, threw > 500 && threw < 2500);
    }

    private static int compare(int there, String words) {
        StackForth interpreted = Check.withNumbers(there);
        StackForth compiled = Check.withNumbers(there);
        Check.text(compiled, ": A " + words + ";");
        Class<?> due = thrownBy(interpreted, words);
        Class<?> got = thrownBy(compiled, "A");
        String what = words + "on " + there;
        Check.holds(what + ": " + got + " is " + due, got == due);
        Check.same(what + ": steps", compiled.count(1), interpreted.count(1) + (due == null ? 2 : 1));
        Check.same(what + ": said()", compiled.said(), interpreted.said());
        Check.same(what + ": depth()", compiled.depth(), interpreted.depth());
        Check.same(what + ": count(5)", compiled.count(5), interpreted.count(5));
        for (int k = 0; k < Math.min(interpreted.depth(), compiled.depth()); k++) {
            Check.same(what + ": top(" + k + ")", compiled.top(k), interpreted.top(k));
        }
        for (int k = 0; k < 64; k++) {
            Check.same(what + ": cell(" + k + ")", compiled.cell(k), interpreted.cell(k));
        }
        return due == null ? 0 : 1;
    }

    private static Class<?> thrownBy(StackForth forth, String text) {
        Check.write(forth, text);
        try {
            forth.interpret();
            return null;
        } catch (RuntimeException e) {
            return e.getClass();
        }
    }
}
