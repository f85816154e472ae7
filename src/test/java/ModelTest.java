import java.util.ArrayList;
import java.util.List;

/** Texts made from fixed seeds must be answered as the model answers them. */
public final class ModelTest {
    private static final String[] PLAIN = ("+ - * / MOD AND OR XOR MIN MAX < = > NEGATE INVERT ABS 1+ 0= 0<"
            + " DUP DROP SWAP OVER ROT NIP TUCK 2DUP 2DROP DEPTH @ ! +! >R R> R@ I .").split(" ");
    private static final String[] OF_NONE = "DEPTH 1 2 3 4 0 -1".split(" ");
    private static final String[] OF_ONE = "DUP DROP NEGATE 1+ 0= 0< ABS INVERT . >R".split(" ");
    private static final String[] OF_TWO = "+ - * SWAP OVER NIP TUCK 2DUP MAX < = / MOD 2DROP".split(" ");
    private static final String[] SHRINKING = "DROP + 2DROP . NIP XOR".split(" ");
    private static final String[] NUMBERS = "0 1 2 3 -1 5 63 64 -7 12 123456789 -999999999 -0 007".split(" ");
    private static final String[] ODD = ("; : THEN ELSE IF BEGIN UNTIL WHILE REPEAT AGAIN DO LOOP EXIT RECURSE"
            + " VARIABLE CONSTANT FOO - 1234567890 -- 1- LONGNAME dup").split(" ");
    private static final String[] NAMES = "A B C D E F G SEVENCH".split(" ");
    private static final String[] TAKEN_NAMES = "5 DUP IF + ; 2DUP : THEN R> -1 EIGHTCHS".split(" ");
    private static final String[] BEGINNINGS = {"7 CONSTANT A VARIABLE B : C DUP * ; : D 2DUP + ;",
        ": E 0 3 0 DO I + LOOP ; : F DUP 0 > IF 1 - RECURSE THEN ; : G BEGIN DUP 0 > WHILE 1 - REPEAT ;",
        ": SEVENCH 0< IF 1 ELSE 2 THEN 3 ;"};
    private static final int SEEDS = 3000;
    private static final int TEXTS = 25;

    private long state;
    private int guess;

    private ModelTest(int seed) {
        state = seed * 7919L + 12345;
    }

    public static void main(String[] args) {
        int[] thrown = new int[6];
        for (int seed = 0; seed < SEEDS; seed++) {
            new ModelTest(seed).compare(seed, thrown);
        }
        for (int i = 0; i < thrown.length; i++) {
            Check.holds("outcome " + i + " comes often enough: " + thrown[i], thrown[i] > 300);
        }
        Check.end("ModelTest");
    }

    private void compare(int seed, int[] thrown) {
        StackForth forth = new StackForth();
        Model model = new Model();
        for (String text : BEGINNINGS) {
            Check.text(forth, text);
            model.interpret(text);
        }
        for (int n = 0; n < TEXTS; n++) {
            String text = makeText();
            String at = "seed " + seed + ", text " + n + " (" + text + ")";
            Check.write(forth, text);
            int due = outcome(() -> model.interpret(text));
            int got = outcome(forth::interpret);
            thrown[due < 0 ? -due : 0]++;
            guess = model.memory.size();
            Check.same(at + ": interpret()", got, due);
            compareState(at, forth, model);
        }
    }

    private interface Answer {
        int give();
    }

    private static int outcome(Answer answer) {
        try {
            return answer.give();
        } catch (java.util.NoSuchElementException e) {
            return -1;
        } catch (IllegalArgumentException e) {
            return -2;
        } catch (IllegalStateException e) {
            return -3;
        } catch (ArithmeticException e) {
            return -4;
        } catch (UnsupportedOperationException e) {
            return -5;
        }
    }

    private static void compareState(String at, StackForth forth, Model model) {
        Check.same(at + ": compiling()", forth.compiling() ? 1 : 0, model.compiled != null ? 1 : 0);
        Check.same(at + ": depth()", forth.depth(), model.memory.size());
        for (int k = 0; k < Math.min(forth.depth(), model.memory.size()); k++) {
            Check.same(at + ": top(" + k + ")", forth.top(k), model.memory.get(model.memory.size() - 1 - k));
        }
        for (int k = 0; k < 64; k++) {
            Check.same(at + ": cell(" + k + ")", forth.cell(k), model.space[k]);
        }
        Check.same(at + ": said()", forth.said(), model.said.size());
        for (int k = 0; k < Math.min(40, Math.min(forth.said(), model.said.size())); k++) {
            Check.same(at + ": saying(" + k + ")", forth.saying(k), model.said.get(k));
        }
        int[] counts = {model.dictionary.size(), model.steps, model.loads, model.stores, model.cells,
            model.returns.size()};
        for (int what = 0; what < counts.length; what++) {
            Check.same(at + ": count(" + what + ")", forth.count(what), counts[what]);
        }
        for (int d = 0; d < Math.min(forth.count(0), counts[0]); d++) {
            for (int what = 0; what < 3; what++) {
                Check.same(at + ": definition(" + d + ", " + what + ")", forth.definition(d, what),
                        model.definition(d, what));
            }
        }
    }

    private int below(int bound) {
        state = state * 6364136223846793005L + 1442695040888963407L;
        return (int) ((state >>> 33) % bound);
    }

    private String one(String[] words) {
        return words[below(words.length)];
    }

    private String makeText() {
        List<String> words = new ArrayList<>();
        int kind = below(10);
        if (kind < 5) {
            if (below(3) > 0) {
                words.add(":");
                words.add(newName());
            }
            addBody(words, 0, 3 + below(10));
            if (below(6) > 0) {
                words.add(";");
            }
        } else if (kind == 5) {
            words.add(one(NUMBERS));
            words.add(below(2) == 0 ? "VARIABLE" : "CONSTANT");
            words.add(newName());
        }
        int tail = below(14);
        for (int i = 0; i < tail; i++) {
            words.add(straight());
        }
        StringBuilder text = new StringBuilder();
        for (String word : words) {
            if (text.length() + word.length() + 2 > 160) {
                break;
            }
            text.append(word).append(below(20) == 0 ? "  " : " ");
        }
        return text.toString();
    }

    /** Mostly what the stack has enough for, by a guess that knows nothing of definitions. */
    private String straight() {
        int kind = below(200);
        if (kind < 12) {
            return one(PLAIN);
        }
        if (kind < 24) {
            return one(NAMES);
        }
        if (kind < 36) {
            guess++;
            return one(NUMBERS);
        }
        if (kind == 36) {
            return one(ODD);
        }
        if (guess > 16) {
            guess--;
            return one(SHRINKING);
        }
        String[] words = guess < 1 || kind < 90 ? OF_NONE : guess < 2 || kind < 130 ? OF_ONE : OF_TWO;
        guess += words == OF_NONE ? 1 : words == OF_ONE ? 0 : below(2) - 1;
        return guess > 3 && kind == 199 ? "ROT" : one(words);
    }

    private String newName() {
        return one(below(30) > 0 ? NAMES : TAKEN_NAMES);
    }

    private void addBody(List<String> words, int deep, int length) {
        for (int i = 0; i < length; i++) {
            if (deep < 3 && below(5) == 0) {
                addStructure(words, deep + 1);
            } else {
                words.add(straight());
            }
        }
    }

    private void addStructure(List<String> words, int deep) {
        String[] parts;
        switch (below(8)) {
            case 0: parts = new String[] {"IF", "THEN"}; break;
            case 1: parts = new String[] {"IF", "ELSE", "THEN"}; break;
            case 2: parts = new String[] {"BEGIN", "UNTIL"}; break;
            case 3: parts = new String[] {"BEGIN", "WHILE", "REPEAT"}; break;
            case 4: parts = new String[] {"3 0 DO", "LOOP"}; break;
            case 5: parts = new String[] {"DO", "LOOP"}; break;
            case 6: parts = new String[] {"BEGIN", "AGAIN"}; break;
            default: parts = new String[] {"DUP 0 > IF 1 -", "RECURSE THEN"}; break;
        }
        for (int i = 0; i < parts.length; i++) {
            if (i > 0) {
                addBody(words, deep, below(4));
            }
            words.addAll(List.of(parts[i].split(" ")));
        }
        if (below(20) == 0) {
            words.add("EXIT");
        }
    }
}
