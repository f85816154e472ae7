/** Promises 3, 10 and 11: the register code of single definitions, and the loads and stores that are done. */
public final class RegisterTest {
    private static final int NO_THROW = 0;
    private static final int THROWS = 1;

    public static void main(String[] args) {
        straightCode();
        whereAllIsStored();
        whatWasDroppedHoldsNothing();
        whatIsDone();
        whatIsDoneWhenItThrows();
        whereStoresBelong();
        Check.end("RegisterTest");
    }

    private static void code(String body, int operations, int loads, int stores) {
        StackForth forth = Check.after(": A " + body + " ;");
        Check.same(body + ": operations", forth.definition(0, 0), operations);
        Check.same(body + ": loads", forth.definition(0, 1), loads);
        Check.same(body + ": stores", forth.definition(0, 2), stores);
    }

    private static void straightCode() {
        code("", 1, 0, 0);
        code("1", 2, 0, 1);
        code("1 2 3", 4, 0, 3);
        code("1 2 3 4", 5, 0, 4);
        code("1 2 +", 4, 0, 1);
        code("+", 2, 2, 1);
        code("1 +", 3, 1, 1);
        code("1 2 3 4 + + +", 8, 1, 2);
        code("ROT", 2, 3, 3);
        code("1 ROT", 3, 2, 3);
        code("1 2 3 ROT", 5, 0, 3);
        code("DUP", 2, 1, 2);
        code("DROP", 2, 1, 0);
        code("1 DROP", 3, 0, 0);
        code("SWAP", 2, 2, 2);
        code("OVER", 2, 2, 3);
        code("OVER OVER", 3, 2, 4);
        code("NIP", 2, 2, 1);
        code("TUCK", 2, 2, 3);
        code("2DUP", 2, 2, 4);
        code("1 2 3 2DUP", 5, 0, 5);
        code("2DUP + + +", 5, 3, 2);
        code("2DROP", 2, 2, 0);
        code("DEPTH", 2, 0, 1);
        code("@", 2, 1, 1);
        code("!", 2, 2, 0);
        code("+!", 2, 2, 0);
        code(">R", 2, 1, 0);
        code("R>", 2, 0, 1);
        code("R@", 2, 0, 1);
        code("I", 2, 0, 1);
        code(".", 2, 1, 0);
        for (String word : "- * AND OR XOR MIN MAX / MOD < = >".split(" ")) {
            code(word, 2, 2, 1);
        }
        for (String word : "NEGATE INVERT ABS 1+ 0= 0<".split(" ")) {
            code(word, 2, 1, 1);
        }
    }

    private static void whereAllIsStored() {
        code("IF THEN", 2, 1, 0);
        code("1 IF THEN", 3, 0, 0);
        code("1 2 3 IF THEN", 5, 0, 2);
        code("1 2 3 IF + THEN", 6, 2, 3);
        code("IF 1 ELSE 2 THEN +", 6, 3, 3);
        code("1 BEGIN + DUP UNTIL", 5, 2, 2);
        code("1 2 BEGIN UNTIL", 4, 1, 2);
        code("BEGIN 1 2 UNTIL +", 5, 2, 2);
        code("BEGIN 1 2 AGAIN +", 5, 2, 3);
        code("BEGIN DUP 1 WHILE 1 + REPEAT DROP", 8, 3, 3);
        code("DO LOOP", 3, 2, 0);
        code("1 2 3 DO LOOP", 6, 0, 1);
        code("1 2 3 DO + LOOP", 7, 2, 2);
        code("1 DO I LOOP +", 6, 3, 2);
        code("1 2 EXIT +", 5, 2, 3);
        code("1 2 RECURSE +", 5, 2, 3);
        code("1 IF 2 THEN 3", 5, 0, 2);
        StackForth forth = Check.after(": A ; 7 CONSTANT C VARIABLE V : B 1 2 A + ; : D 1 C + V ;");
        Check.same("1 2 A +: loads", forth.definition(3, 1), 2);
        Check.same("1 2 A +: stores", forth.definition(3, 2), 3);
        Check.same("1 C + V: loads", forth.definition(4, 1), 2);
        Check.same("1 C + V: stores", forth.definition(4, 2), 2);
        Check.same("a constant: stores", forth.definition(1, 2), 1);
        Check.same("a variable: stores", forth.definition(2, 2), 1);
    }

    private static void whatWasDroppedHoldsNothing() {
        StackForth forth = Check.after(": A 1 2");
        Check.textFails(forth, "FOO", java.util.NoSuchElementException.class);
        Check.text(forth, ": A + ;");
        Check.same("+ behind a dropped definition: loads", forth.definition(0, 1), 2);
        Check.same("+ behind a dropped definition: stores", forth.definition(0, 2), 1);
    }

    private static void done(String definitions, String text, int throwing, int steps, int loads, int stores) {
        StackForth forth = Check.after(definitions);
        Check.write(forth, text);
        int thrown = NO_THROW;
        try {
            forth.interpret();
        } catch (RuntimeException e) {
            thrown = THROWS;
        }
        String what = definitions + " " + text;
        Check.same(what + ": throws", thrown, throwing);
        Check.same(what + ": steps", forth.count(1), steps);
        Check.same(what + ": loads", forth.count(2), loads);
        Check.same(what + ": stores", forth.count(3), stores);
    }

    private static void whatIsDone() {
        done("", "1 2 + DUP . 3 SWAP", NO_THROW, 7, 0, 0);
        done(": A + ;", "1 2 A 3 A", NO_THROW, 9, 4, 2);
        done(": A IF 1 2 ELSE DUP THEN ;", "5 0 A", NO_THROW, 6, 2, 2);
        done(": A IF 1 2 ELSE DUP THEN ;", "5 1 A", NO_THROW, 8, 1, 2);
        done(": A 3 0 DO 5 LOOP ;", "A", NO_THROW, 11, 0, 3);
        done("4 CONSTANT C : A C C + ;", "A", NO_THROW, 7, 2, 3);
        done(": A 1 EXIT 2 3 ;", "A", NO_THROW, 3, 0, 1);
    }

    private static void whatIsDoneWhenItThrows() {
        done(": A + ;", "A", THROWS, 2, 0, 0);
        done(": A + ;", "1 A", THROWS, 3, 1, 0);
        done(": A ROT ;", "1 2 A", THROWS, 4, 2, 0);
        done(": A 1 ROT ;", "2 A", THROWS, 4, 1, 0);
        done(": A 1 + ;", "A", THROWS, 3, 0, 0);
        done(": A 1 2 3 4 0 / ;", "A", THROWS, 7, 0, 2);
        done(": A / ;", "1 0 A", THROWS, 4, 2, 0);
        done(": A @ ;", "64 A", THROWS, 3, 1, 0);
        done(": A IF THEN ;", "A", THROWS, 2, 0, 0);
        done(": A 1 2 3 4 5 ;", "1 1 1 1 1 1 1 1 1 1 1 1 1 1 1 1 1 1 1 1 A", THROWS, 26, 0, 1);
    }

    /** A step that is missing for the operation behind does not keep what is held from being stored. */
    private static void whereStoresBelong() {
        Check.sentence("Stores belong to the operation behind which they come, loads to the one that needs them.");
        String filling = ": F 192 0 DO LOOP ; : G F F F ; ";
        String filled = "G 1 DROP 1 DROP ";
        done(filling, filled, NO_THROW, 597, 0, 0);
        done(filling + ": A 1 2 ; ", filled + "A", THROWS, 600, 0, 2);
        done(filling + ": A 1 2 EXIT ; ", filled + "A", THROWS, 600, 0, 2);
        done(filling + ": A 1 2 + ; ", filled + "A", THROWS, 600, 0, 0);
        done(filling + ": A 1 2 BEGIN 3 AGAIN ; ", filled + "A", THROWS, 600, 0, 2);
        done(filling + ": A BEGIN 1 2 AGAIN ; ", filled + "A", THROWS, 600, 0, 2);
        done(filling + ": A BEGIN WHILE 5 REPEAT ; ", "1 G 1 DROP 1 A", THROWS, 600, 1, 1);
        done(filling + ": A IF 5 ELSE 6 THEN ; ", "1 G 1 DROP 1 A", THROWS, 600, 1, 1);
        done(filling + ": A DO 5 LOOP ; ", "1 G 1 DROP 1 A", THROWS, 600, 2, 1);
        done(filling + ": A 1 IF 3 THEN ; ", filled + "A", THROWS, 600, 0, 0);
        done(filling + ": A 1 2 RECURSE ; ", filled + "A", THROWS, 600, 0, 2);
        done(filling + ": A 1 2 F ; ", filled + "A", THROWS, 600, 0, 2);
        done(filling + ": A + + ; ", "1 2 3 4 G A", THROWS, 600, 3, 1);
        done(filling + ": A + + ; ", "1 2 3 4 5 G A", THROWS, 600, 2, 0);
    }
}
