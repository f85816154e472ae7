import java.util.ArrayDeque;
import java.util.ArrayList;
import java.util.Deque;
import java.util.HashMap;
import java.util.List;
import java.util.Map;
import java.util.NoSuchElementException;

/**
 * A second StackForth, written straight from the document's words and in another way: it really
 * moves numbers between registers and memory, and looks at the words around an operation for what
 * to store. It takes whole texts.
 */
final class Model {
    /** A word that is compiled; THEN and BEGIN stand in the row too, though they are no operations. */
    private static final class Item {
        final String word;
        int goal;
        int number;
        Entry entry;

        Item(String word) {
            this.word = word;
        }

        boolean isOperation() {
            return !word.equals("THEN") && !word.equals("BEGIN");
        }

        boolean wantsAllStoredBefore() {
            switch (word) {
                case "THEN": case "BEGIN": case "ELSE": case "AGAIN": case "REPEAT": case "LOOP":
                case "EXIT": case ";": case "RECURSE": case "call": case "end of a number":
                    return true;
                default:
                    return false;
            }
        }

        boolean wantsAllStoredBehind() {
            return word.equals("IF") || word.equals("UNTIL") || word.equals("WHILE") || word.equals("DO");
        }
    }

    private static final class Entry {
        final String name;
        final List<Item> items = new ArrayList<>();

        Entry(String name) {
            this.name = name;
        }
    }

    private static final Map<String, int[]> EFFECTS = new HashMap<>();

    static {
        for (String word : "+ - * AND OR XOR MIN MAX / MOD < = >".split(" ")) {
            EFFECTS.put(word, new int[] {2, 1});
        }
        for (String word : "NEGATE INVERT ABS 1+ 0= 0< @".split(" ")) {
            EFFECTS.put(word, new int[] {1, 1});
        }
        for (String word : "DEPTH R> R@ I number".split(" ")) {
            EFFECTS.put(word, new int[] {0, 1});
        }
        for (String word : "DROP >R . IF UNTIL WHILE".split(" ")) {
            EFFECTS.put(word, new int[] {1, 0});
        }
        for (String word : "2DROP ! +! DO".split(" ")) {
            EFFECTS.put(word, new int[] {2, 0});
        }
        EFFECTS.put("DUP", new int[] {1, 2});
        EFFECTS.put("SWAP", new int[] {2, 2});
        EFFECTS.put("OVER", new int[] {2, 3});
        EFFECTS.put("ROT", new int[] {3, 3});
        EFFECTS.put("NIP", new int[] {2, 1});
        EFFECTS.put("TUCK", new int[] {2, 3});
        EFFECTS.put("2DUP", new int[] {2, 4});
        for (String word : "ELSE AGAIN REPEAT LOOP EXIT ; RECURSE call".split(" ")) {
            EFFECTS.put(word, new int[] {0, 0});
        }
    }

    final List<Integer> memory = new ArrayList<>();
    final List<Integer> returns = new ArrayList<>();
    final List<Integer> said = new ArrayList<>();
    final List<Entry> dictionary = new ArrayList<>();
    final int[] space = new int[64];
    int cells = 0;
    int steps = 0;
    int loads = 0;
    int stores = 0;
    Entry compiled = null;
    private final Deque<Item> open = new ArrayDeque<>();
    private final List<Integer> registers = new ArrayList<>();

    int interpret(String text) {
        said.clear();
        steps = 0;
        loads = 0;
        stores = 0;
        List<String> words = new ArrayList<>();
        for (String word : text.split(" ")) {
            if (!word.isEmpty()) {
                words.add(word);
            }
        }
        try {
            for (int i = 0; i < words.size(); i++) {
                String word = words.get(i);
                if (find(word) == null && (word.equals(":") || word.equals("VARIABLE") || word.equals("CONSTANT"))) {
                    i++;
                    define(word, i < words.size() ? words.get(i) : "no name there");
                } else if (compiled != null) {
                    compile(word);
                } else {
                    doNow(word);
                }
            }
        } catch (RuntimeException e) {
            memory.clear();
            registers.clear();
            returns.clear();
            compiled = null;
            throw e;
        }
        return words.size();
    }

    /** 0: operations, 1: loads, 2: stores, found by walking over the row with a count of what is held. */
    int definition(int d, int what) {
        int operations = 0;
        int loaded = 0;
        int stored = 0;
        int held = 0;
        for (Item item : dictionary.get(d).items) {
            if (item.wantsAllStoredBefore()) {
                stored += held;
                held = 0;
            }
            if (!item.isOperation() || item.word.equals("end of a number")) {
                continue;
            }
            operations++;
            int[] effect = EFFECTS.get(item.word);
            for (; held < effect[0]; held++) {
                loaded++;
            }
            held += effect[1] - effect[0];
            for (; held > 3 || held > 0 && item.wantsAllStoredBehind(); held--) {
                stored++;
            }
        }
        return new int[] {operations, loaded, stored}[what];
    }

    private Entry find(String name) {
        for (int d = dictionary.size() - 1; d >= 0; d--) {
            if (dictionary.get(d).name.equals(name)) {
                return dictionary.get(d);
            }
        }
        return null;
    }

    private static void wrongIf(boolean wrong) {
        if (wrong) {
            throw new IllegalArgumentException();
        }
    }

    private static void refuseIf(boolean refused) {
        if (refused) {
            throw new IllegalStateException();
        }
    }

    private void define(String word, String name) {
        wrongIf(compiled != null);
        wrongIf(name.length() > 7);
        wrongIf(dictionary.size() == 40);
        Entry entry = new Entry(name);
        if (word.equals(":")) {
            compiled = entry;
            open.clear();
            return;
        }
        Item number = new Item("number");
        if (word.equals("VARIABLE")) {
            wrongIf(cells == 64);
            number.number = cells++;
        } else {
            refuseIf(memory.isEmpty());
            number.number = memory.remove(memory.size() - 1);
        }
        entry.items.add(number);
        entry.items.add(new Item("end of a number"));
        dictionary.add(entry);
    }

    private Item itemFor(String word) {
        Entry entry = find(word);
        if (entry != null) {
            Item item = new Item("call");
            item.entry = entry;
            return item;
        }
        if (EFFECTS.containsKey(word) && !word.equals("number") && !word.equals("call")
                || word.equals("THEN") || word.equals("BEGIN")) {
            return new Item(word);
        }
        if (word.matches("-?[0-9]{1,9}")) {
            Item item = new Item("number");
            item.number = Integer.parseInt(word);
            return item;
        }
        throw new NoSuchElementException();
    }

    private void doNow(String word) {
        Item item = itemFor(word);
        wrongIf(" IF UNTIL WHILE DO ELSE AGAIN REPEAT LOOP EXIT ; RECURSE THEN BEGIN ".contains(" " + item.word + " "));
        step();
        if (item.word.equals("call")) {
            run(item.entry, 1);
            return;
        }
        // Outside of definitions nothing is held: what this moves to and fro is not counted.
        int loadsBefore = loads;
        int storesBefore = stores;
        try {
            operate(item);
        } finally {
            storeAll();
            loads = loadsBefore;
            stores = storesBefore;
        }
    }

    private void compile(String word) {
        Item item = itemFor(word);
        List<Item> items = compiled.items;
        int here = items.size();
        String last = open.isEmpty() ? "" : open.peek().word;
        switch (item.word) {
            case "ELSE":
                wrongIf(!last.equals("IF"));
                open.pop().goal = here + 1;
                break;
            case "THEN":
                wrongIf(!last.equals("IF") && !last.equals("ELSE"));
                open.pop().goal = here;
                break;
            case "UNTIL": case "AGAIN":
                wrongIf(!last.equals("BEGIN"));
                item.goal = items.indexOf(open.pop());
                break;
            case "WHILE":
                wrongIf(!last.equals("BEGIN"));
                break;
            case "REPEAT":
                wrongIf(!last.equals("WHILE"));
                open.pop().goal = here + 1;
                item.goal = items.indexOf(open.pop());
                break;
            case "LOOP":
                wrongIf(!last.equals("DO"));
                item.goal = items.indexOf(open.pop()) + 1;
                break;
            case ";":
                wrongIf(!open.isEmpty());
                break;
            case "RECURSE":
                item.entry = compiled;
                break;
            default:
                break;
        }
        if (" IF ELSE BEGIN WHILE DO ".contains(" " + item.word + " ")) {
            wrongIf(open.size() == 8);
            open.push(item);
        }
        wrongIf(item.isOperation() && items.stream().filter(Item::isOperation).count() == 60);
        items.add(item);
        if (item.word.equals(";")) {
            dictionary.add(compiled);
            compiled = null;
        }
    }

    private void step() {
        if (steps == 600) {
            throw new UnsupportedOperationException();
        }
        steps++;
    }

    private void run(Entry entry, int deep) {
        refuseIf(deep > 12);
        int at = 0;
        while (at < entry.items.size()) {
            Item item = entry.items.get(at);
            if (!item.isOperation()) {
                at++;
                continue;
            }
            if (item.word.equals("end of a number")) {
                return;
            }
            step();
            if (item.word.equals(";") || item.word.equals("EXIT")) {
                return;
            }
            boolean goes = false;
            if (item.word.equals("call") || item.word.equals("RECURSE")) {
                run(item.entry, deep + 1);
            } else {
                goes = operate(item);
            }
            if (item.wantsAllStoredBehind() || entry.items.get(at + 1).wantsAllStoredBefore()) {
                storeAll();
            }
            at = goes ? item.goal : at + 1;
        }
    }

    private void storeLowest() {
        memory.add(registers.remove(0));
        stores++;
    }

    private void storeAll() {
        while (!registers.isEmpty()) {
            storeLowest();
        }
    }

    private int take() {
        return registers.remove(registers.size() - 1);
    }

    private void give(int... numbers) {
        for (int number : numbers) {
            registers.add(number);
        }
    }

    /** Whether it goes on at its goal. */
    private boolean operate(Item item) {
        int takes = EFFECTS.get(item.word)[0];
        while (registers.size() < takes && !memory.isEmpty()) {
            registers.add(0, memory.remove(memory.size() - 1));
            loads++;
        }
        refuseIf(registers.size() < takes);
        boolean goes = act(item);
        refuseIf(memory.size() + registers.size() > 24);
        while (registers.size() > 3) {
            storeLowest();
        }
        return goes;
    }

    private boolean act(Item item) {
        int a;
        int b;
        int c;
        switch (item.word) {
            case "number": give(item.number); return false;
            case "NEGATE": give(-take()); return false;
            case "INVERT": give(~take()); return false;
            case "ABS": a = take(); give(a < 0 ? -a : a); return false;
            case "1+": give(take() + 1); return false;
            case "0=": give(take() == 0 ? -1 : 0); return false;
            case "0<": give(take() < 0 ? -1 : 0); return false;
            case "DUP": a = take(); give(a, a); return false;
            case "DROP": take(); return false;
            case "SWAP": b = take(); a = take(); give(b, a); return false;
            case "OVER": b = take(); a = take(); give(a, b, a); return false;
            case "ROT": c = take(); b = take(); a = take(); give(b, c, a); return false;
            case "NIP": b = take(); take(); give(b); return false;
            case "TUCK": b = take(); a = take(); give(b, a, b); return false;
            case "2DUP": b = take(); a = take(); give(a, b, a, b); return false;
            case "2DROP": take(); take(); return false;
            case "DEPTH": give(memory.size() + registers.size()); return false;
            case "@": a = take(); refuseIf(a < 0 || a > 63); give(space[a]); return false;
            case "!": a = take(); refuseIf(a < 0 || a > 63); space[a] = take(); return false;
            case "+!": a = take(); refuseIf(a < 0 || a > 63); space[a] += take(); return false;
            case ">R": refuseIf(returns.size() == 24); returns.add(take()); return false;
            case "R>": refuseIf(returns.isEmpty()); give(returns.remove(returns.size() - 1)); return false;
            case "R@": case "I": refuseIf(returns.isEmpty()); give(returns.get(returns.size() - 1)); return false;
            case ".": said.add(0, take()); return false;
            case "IF": case "UNTIL": case "WHILE": return take() == 0;
            case "ELSE": case "AGAIN": case "REPEAT": return true;
            case "DO":
                b = take();
                a = take();
                refuseIf(returns.size() > 22);
                returns.add(a);
                returns.add(b);
                return false;
            case "LOOP": return loop();
            default: b = take(); a = take(); give(ofTwo(item.word, a, b)); return false;
        }
    }

    private boolean loop() {
        int size = returns.size();
        refuseIf(size < 2);
        returns.set(size - 1, returns.get(size - 1) + 1);
        if (!returns.get(size - 1).equals(returns.get(size - 2))) {
            return true;
        }
        returns.remove(size - 1);
        returns.remove(size - 2);
        return false;
    }

    private static int ofTwo(String word, int a, int b) {
        switch (word) {
            case "+": return a + b;
            case "-": return a - b;
            case "*": return a * b;
            case "/": return a / b;
            case "MOD": return a % b;
            case "AND": return a & b;
            case "OR": return a | b;
            case "XOR": return a ^ b;
            case "MIN": return a < b ? a : b;
            case "MAX": return a > b ? a : b;
            case "<": return a < b ? -1 : 0;
            case "=": return a == b ? -1 : 0;
            default: return a > b ? -1 : 0;
        }
    }
}
