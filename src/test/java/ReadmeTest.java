/** The examples of README.md must answer what stands behind them there. */
public final class ReadmeTest {
    public static void main(String[] args) {
        StackForth forth = new StackForth();
        aSum(forth);
        aSquare(forth);
        aDefinitionOverTwoTexts(forth);
        Check.end("ReadmeTest");
    }

    private static void aSum(StackForth forth) {
        Check.same("write", forth.write(0x2B20322031L, 5), 5);
        Check.same("1 2 +", forth.interpret(), 3);
        Check.same("the sum", forth.top(0), 3);
    }

    private static void aSquare(StackForth forth) {
        Check.same("SQ", text(forth, ": SQ DUP * ; 5 SQ ."), 8);
        Check.same("5 SQ", forth.saying(0), 25);
        Check.same("operations of SQ", forth.definition(0, 0), 3);
        Check.same("loads of SQ", forth.definition(0, 1), 1);
        Check.same("stores of SQ", forth.definition(0, 2), 1);
        Check.same("steps", forth.count(1), 6);
    }

    private static void aDefinitionOverTwoTexts(StackForth forth) {
        Check.same("the first half of SUM", text(forth, ": SUM 0 SWAP 0"), 5);
        Check.holds("compiling() behind the first half", forth.compiling());
        Check.same("the second half of SUM", text(forth, "DO I + LOOP ;"), 5);
        Check.holds("not compiling() behind the second half", !forth.compiling());
        Check.same("5 SUM", text(forth, "5 SUM ."), 3);
        Check.same("the sum below 5", forth.saying(0), 10);
    }

    /** README's own helper, and not that of Check, so that it is tried too. */
    private static int text(StackForth forth, String text) {
        for (int from = 0; from < text.length(); from += 8) {
            int n = Math.min(8, text.length() - from);
            long eight = 0;
            for (int i = from + n - 1; i >= from; i--) {
                eight = eight << 8 | text.charAt(i);
            }
            forth.write(eight, n);
        }
        return forth.interpret();
    }
}
