import java.util.NoSuchElementException;

/**
 * A small Forth whose colon definitions are translated to code for a machine with three registers.
 * The promises that the methods name are those of the project's document.
 */
public final class StackForth {
    /** Nothing there. */
    public static final int NONE = -1;

    private static final int TEXT_ROOM = 160;
    private static final int WRITE_ROOM = 8;
    private static final int NAME_ROOM = 7;
    private static final int KEY_ROOM = 8;
    private static final int DIGITS = 9;
    private static final int STACK_ROOM = 24;
    private static final int SPACE_ROOM = 64;
    private static final int SAID_ROOM = 40;
    private static final int DEFINITION_ROOM = 40;
    private static final int OPERATION_ROOM = 60;
    private static final int OPEN_ROOM = 8;
    private static final int STEP_LIMIT = 600;
    private static final int DEEP_LIMIT = 12;
    private static final int REGISTERS = 3;

    // The kinds of words. A kind is an int because an enum's fields may be nothing but numbers and texts.
    private static final int OF_TWO = 0;
    private static final int OF_ONE = 1;
    private static final int MOVES = 2;
    private static final int MEMORY = 3;
    private static final int RETURNS = 4;
    private static final int PUTS = 5;
    private static final int TESTS = 6;
    private static final int LEAVES = 7;
    private static final int PLACES = 8;
    private static final int DEFINES = 9;

    private final Text text;
    private final Dictionary dictionary;
    private final Compiler compiler;
    private final Machine machine;

    /** Promise 1: nothing is written, no definitions, empty stacks. */
    public StackForth() {
        text = new Text();
        dictionary = new Dictionary();
        compiler = new Compiler(dictionary);
        machine = new Machine(dictionary);
    }

    /** Promise 2: the n lowest bytes of eight come behind the text; how many characters it has. */
    public int write(long eight, int n) throws IllegalArgumentException, IllegalStateException {
        if (n < 1 || n > WRITE_ROOM || !Text.areCharacters(eight, n)) {
            throw new IllegalArgumentException();
        }
        if (text.length + n > TEXT_ROOM) {
            throw new IllegalStateException();
        }
        text.append(eight, n);
        return text.length;
    }

    /** Promise 3: interprets the text, which is gone then; how many words it has. */
    public int interpret() throws NoSuchElementException, IllegalArgumentException,
            IllegalStateException, ArithmeticException, UnsupportedOperationException {
        machine.beginText();
        Fault fault = Fault.NO_FAULT;
        for (int n = 0; n < TEXT_ROOM && fault == Fault.NO_FAULT && text.nextWord(); n++) {
            fault = interpretWord();
        }
        int words = text.wordsRead;
        text.clear();
        if (fault != Fault.NO_FAULT) {
            machine.emptyStacks();
            compiler.drop();
            raise(fault);
        }
        return words;
    }

    /** Promise 4: whether a definition is being compiled. */
    public boolean compiling() {
        return compiler.on;
    }

    /** Promise 5: how many numbers are on the stack. */
    public int depth() {
        return machine.data.size;
    }

    /** Promise 6: the k-th number from the top (0) of the stack. */
    public int top(int k) throws IndexOutOfBoundsException {
        if (k < 0 || k >= machine.data.size) {
            throw new IndexOutOfBoundsException();
        }
        return machine.data.fromTop(k);
    }

    /** Promise 7: cell k of the space. */
    public int cell(int k) throws IndexOutOfBoundsException {
        if (!Machine.isCell(k)) {
            throw new IndexOutOfBoundsException();
        }
        return machine.space[k];
    }

    /** Promise 8: how many numbers were said by the latest text. */
    public int said() {
        return machine.saidNumbers;
    }

    /** Promise 9: the k-th of the latest 40 numbers that were said, the latest one being 0. */
    public int saying(int k) throws IndexOutOfBoundsException {
        if (k < 0 || k >= SAID_ROOM || k >= machine.saidNumbers) {
            throw new IndexOutOfBoundsException();
        }
        return machine.spoken[(machine.saidNumbers - 1 - k) % SAID_ROOM];
    }

    /** Promise 10: of definition d, how many operations (0), loads (1) and stores (2) it has. */
    public int definition(int d, int what) throws IndexOutOfBoundsException {
        Definition found = dictionary.at(d);
        if (found == null || what < 0 || what > 2) {
            throw new IndexOutOfBoundsException();
        }
        if (what == 0) {
            return found.size;
        }
        return Definition.sum(what == 1 ? found.loads : found.stores);
    }

    /**
     * Promise 11: how many definitions there are (0), steps (1), loads (2) and stores (3) of the
     * latest text, cells that are taken (4), and numbers on the return stack (5).
     */
    public int count(int what) throws IndexOutOfBoundsException {
        switch (what) {
            case 0:
                return dictionary.size;
            case 1:
                return machine.steps;
            case 2:
                return machine.loads;
            case 3:
                return machine.stores;
            case 4:
                return machine.cellsTaken;
            case 5:
                return machine.returns.size;
            default:
                throw new IndexOutOfBoundsException();
        }
    }

    private static void raise(Fault fault) {
        switch (fault) {
            case UNKNOWN:
                throw new NoSuchElementException();
            case WRONG:
                throw new IllegalArgumentException();
            case REFUSED:
                throw new IllegalStateException();
            case DIVIDED_BY_0:
                throw new ArithmeticException();
            default:
                throw new UnsupportedOperationException();
        }
    }

    private Fault interpretWord() {
        long key = text.key();
        int d = dictionary.find(key);
        if (d != NONE) {
            return compileOrDo(Word.CALL, d);
        }
        Word word = Word.withKey(key);
        if (word == null) {
            return text.isNumber() ? compileOrDo(Word.NUMBER, text.number()) : Fault.UNKNOWN;
        }
        switch (word.kind) {
            case DEFINES:
                return compiler.on ? Fault.WRONG : define(word);
            case TESTS:
            case LEAVES:
            case PLACES:
                return fitting(compiler.on && compiler.act(word));
            default:
                return compileOrDo(word, 0);
        }
    }

    private Fault compileOrDo(Word word, int number) {
        return compiler.on ? fitting(compiler.add(word, number)) : machine.doWord(word, number);
    }

    private Fault define(Word word) {
        if (!text.nextWord() || !text.isName() || dictionary.isFull()) {
            return Fault.WRONG;
        }
        switch (word) {
            case VARIABLE:
                return defineVariable(text.key());
            case CONSTANT:
                return defineConstant(text.key());
            default:
                compiler.begin(text.key());
                return Fault.NO_FAULT;
        }
    }

    private Fault defineVariable(long name) {
        if (machine.cellsTaken == SPACE_ROOM) {
            return Fault.WRONG;
        }
        boolean fits = compiler.defineNumber(name, machine.cellsTaken);
        machine.cellsTaken++;
        return fitting(fits);
    }

    private Fault defineConstant(long name) {
        if (machine.data.size == 0) {
            return Fault.REFUSED;
        }
        return fitting(compiler.defineNumber(name, machine.data.pop()));
    }

    private static Fault fitting(boolean fits) {
        return fits ? Fault.NO_FAULT : Fault.WRONG;
    }

    /** Why a text can't be interpreted further: each fault is one exception of interpret. */
    private enum Fault {
        NO_FAULT, UNKNOWN, WRONG, REFUSED, DIVIDED_BY_0, STEPS_USED_UP
    }

    /** The built-in words with what they take and give, and the two operations that have no word. */
    private enum Word {
        ADD("+", OF_TWO, "ab", "c"),
        SUBTRACT("-", OF_TWO, "ab", "c"),
        MULTIPLY("*", OF_TWO, "ab", "c"),
        DIVIDE("/", OF_TWO, "ab", "c"),
        MOD("MOD", OF_TWO, "ab", "c"),
        AND("AND", OF_TWO, "ab", "c"),
        OR("OR", OF_TWO, "ab", "c"),
        XOR("XOR", OF_TWO, "ab", "c"),
        MIN("MIN", OF_TWO, "ab", "c"),
        MAX("MAX", OF_TWO, "ab", "c"),
        LESS("<", OF_TWO, "ab", "c"),
        EQUAL("=", OF_TWO, "ab", "c"),
        GREATER(">", OF_TWO, "ab", "c"),
        NEGATE("NEGATE", OF_ONE, "a", "b"),
        INVERT("INVERT", OF_ONE, "a", "b"),
        ABS("ABS", OF_ONE, "a", "b"),
        ONE_MORE("1+", OF_ONE, "a", "b"),
        IS_0("0=", OF_ONE, "a", "b"),
        BELOW_0("0<", OF_ONE, "a", "b"),
        DUP("DUP", MOVES, "a", "aa"),
        DROP("DROP", MOVES, "a", ""),
        SWAP("SWAP", MOVES, "ab", "ba"),
        OVER("OVER", MOVES, "ab", "aba"),
        ROT("ROT", MOVES, "abc", "bca"),
        NIP("NIP", MOVES, "ab", "b"),
        TUCK("TUCK", MOVES, "ab", "bab"),
        TWO_DUP("2DUP", MOVES, "ab", "abab"),
        TWO_DROP("2DROP", MOVES, "ab", ""),
        FETCH("@", MEMORY, "k", "n"),
        PUT("!", MEMORY, "nk", ""),
        ADD_TO("+!", MEMORY, "nk", ""),
        TO_RETURNS(">R", RETURNS, "n", ""),
        FROM_RETURNS("R>", RETURNS, "", "n"),
        COPY_RETURNS("R@", RETURNS, "", "n"),
        INDEX("I", RETURNS, "", "n"),
        DEPTH("DEPTH", PUTS, "", "n"),
        SAY(".", PUTS, "n", ""),
        NUMBER("", PUTS, "", "n"),
        IF("IF", TESTS, "f", ""),
        UNTIL("UNTIL", TESTS, "f", ""),
        WHILE("WHILE", TESTS, "f", ""),
        DO("DO", TESTS, "ms", ""),
        ELSE("ELSE", LEAVES, "", ""),
        AGAIN("AGAIN", LEAVES, "", ""),
        REPEAT("REPEAT", LEAVES, "", ""),
        LOOP("LOOP", LEAVES, "", ""),
        EXIT("EXIT", LEAVES, "", ""),
        RECURSE("RECURSE", LEAVES, "", ""),
        END(";", LEAVES, "", ""),
        CALL("", LEAVES, "", ""),
        THEN("THEN", PLACES, "", ""),
        BEGIN("BEGIN", PLACES, "", ""),
        COLON(":", DEFINES, "", ""),
        VARIABLE("VARIABLE", DEFINES, "", ""),
        CONSTANT("CONSTANT", DEFINES, "", "");

        private static final Word[] ALL = values();

        final long key;
        final int kind;
        final int takes;
        final String gives;

        Word(String written, int kind, String takes, String gives) {
            this.key = keyOf(written);
            this.kind = kind;
            this.takes = takes.length();
            this.gives = gives;
        }

        private static long keyOf(String written) {
            long key = 0;
            for (int i = written.length() - 1; i >= 0; i--) {
                key = key << 8 | written.charAt(i);
            }
            return key;
        }

        /** NUMBER and CALL have the key 0, which no word of a text has: it has a character at least. */
        static Word withKey(long key) {
            for (int i = 0; i < ALL.length; i++) {
                if (ALL[i].key == key) {
                    return ALL[i];
                }
            }
            return null;
        }
    }

    /** The text that is written, and the word of it that is read now. */
    private static final class Text {
        private final char[] characters = new char[TEXT_ROOM];
        private int length;
        private int wordsRead;
        private int start;
        private int end;

        static boolean areCharacters(long eight, int n) {
            for (int i = 0; i < n; i++) {
                int c = byteOf(eight, i);
                if (c < ' ' || c > '~') {
                    return false;
                }
            }
            return true;
        }

        private static int byteOf(long eight, int i) {
            return (int) (eight >>> 8 * i) & 255;
        }

        void append(long eight, int n) {
            for (int i = 0; i < n; i++) {
                characters[length] = (char) byteOf(eight, i);
                length++;
            }
        }

        void clear() {
            length = 0;
            wordsRead = 0;
            start = 0;
            end = 0;
        }

        boolean nextWord() {
            start = end;
            while (start < length && characters[start] == ' ') {
                start++;
            }
            end = start;
            while (end < length && characters[end] != ' ') {
                end++;
            }
            if (start == end) {
                return false;
            }
            wordsRead++;
            return true;
        }

        boolean isName() {
            return end - start <= NAME_ROOM;
        }

        /** The word's characters in one number; NONE for a word too long to be in any list. */
        long key() {
            if (end - start > KEY_ROOM) {
                return NONE;
            }
            long key = 0;
            for (int i = end - 1; i >= start; i--) {
                key = key << 8 | characters[i];
            }
            return key;
        }

        boolean isNumber() {
            int first = firstDigit();
            if (first == end || end - first > DIGITS) {
                return false;
            }
            for (int i = first; i < end; i++) {
                if (characters[i] < '0' || characters[i] > '9') {
                    return false;
                }
            }
            return true;
        }

        int number() {
            int number = 0;
            int first = firstDigit();
            for (int i = first; i < end; i++) {
                number = number * 10 + (characters[i] - '0');
            }
            return first == start ? number : -number;
        }

        private int firstDigit() {
            return start < end && characters[start] == '-' ? start + 1 : start;
        }
    }

    /** A definition that is in the dictionary: a row of operations, each with its loads and stores. */
    private static final class Definition {
        private final long name;
        private final int size;
        private final Word[] words;
        private final int[] numbers;
        private final int[] loads;
        private final int[] stores;

        /** Copies the first operations of the rows, so that the rows can be used again. */
        Definition(long name, int size, Word[] words, int[] numbers, int[] loads, int[] stores) {
            this.name = name;
            this.size = size;
            this.words = new Word[size];
            this.numbers = new int[size];
            this.loads = new int[size];
            this.stores = new int[size];
            for (int i = 0; i < size; i++) {
                this.words[i] = words[i];
                this.numbers[i] = numbers[i];
                this.loads[i] = loads[i];
                this.stores[i] = stores[i];
            }
        }

        static int sum(int[] row) {
            int sum = 0;
            for (int i = 0; i < row.length; i++) {
                sum += row[i];
            }
            return sum;
        }
    }

    /** The definitions in the order in which they came. */
    private static final class Dictionary {
        private final Definition[] definitions = new Definition[DEFINITION_ROOM];
        private int size;

        boolean isFull() {
            return size == DEFINITION_ROOM;
        }

        void add(Definition added) {
            if (size < DEFINITION_ROOM) {
                definitions[size] = added;
                size++;
            }
        }

        Definition at(int d) {
            return d >= 0 && d < size ? definitions[d] : null;
        }

        /** The latest definition with the name, or NONE. */
        int find(long name) {
            for (int d = size - 1; d >= 0; d--) {
                if (definitions[d].name == name) {
                    return d;
                }
            }
            return NONE;
        }
    }

    /** Makes definitions: their operations, their register code, and the row of what is open. */
    private static final class Compiler {
        private final Dictionary dictionary;
        private final Word[] words = new Word[OPERATION_ROOM];
        private final int[] numbers = new int[OPERATION_ROOM];
        private final int[] loads = new int[OPERATION_ROOM];
        private final int[] stores = new int[OPERATION_ROOM];
        private final Word[] openWords = new Word[OPEN_ROOM];
        private final int[] openPlaces = new int[OPEN_ROOM];
        private boolean on;
        private long name;
        private int size;
        private int held;
        private int openSize;

        Compiler(Dictionary dictionary) {
            this.dictionary = dictionary;
        }

        void begin(long newName) {
            on = true;
            name = newName;
            size = 0;
            held = 0;
            openSize = 0;
        }

        void drop() {
            on = false;
        }

        /** A variable or a constant: one operation, and no ";" behind it. */
        boolean defineNumber(long newName, int number) {
            begin(newName);
            return add(Word.NUMBER, number) && finish();
        }

        /** Adds an operation; false, when there is no room for it. */
        boolean add(Word word, int number) {
            if (size == OPERATION_ROOM) {
                return false;
            }
            if (word.kind == LEAVES) {
                storeHeld();
            }
            int loaded = Math.max(0, word.takes - held);
            int heldBehind = held + loaded - word.takes + word.gives.length();
            words[size] = word;
            numbers[size] = number;
            loads[size] = loaded;
            stores[size] = Math.max(0, heldBehind - REGISTERS);
            held = heldBehind - stores[size];
            size++;
            if (word.kind == TESTS) {
                storeHeld();
            }
            return true;
        }

        /** Does a word that acts at once; false, when it does not fit. */
        boolean act(Word word) {
            switch (word) {
                case IF:
                    return add(word, 0) && open(word, size - 1);
                case ELSE:
                    return lastOpen() == Word.IF && add(word, 0) && turnIfToElse();
                case THEN:
                    return (lastOpen() == Word.IF || lastOpen() == Word.ELSE) && endCondition();
                case BEGIN:
                    storeHeld();
                    return open(word, size);
                case UNTIL:
                case AGAIN:
                    return lastOpen() == Word.BEGIN && goBack(word);
                case WHILE:
                    return lastOpen() == Word.BEGIN && add(word, 0) && open(word, size - 1);
                case REPEAT:
                    return lastOpen() == Word.WHILE && endWhile();
                case DO:
                    return add(word, 0) && open(word, size);
                case LOOP:
                    return lastOpen() == Word.DO && goBack(word);
                case RECURSE:
                    // No other definition can come before this one ends, so its place is known.
                    return add(Word.CALL, dictionary.size);
                case END:
                    return openSize == 0 && add(word, 0) && finish();
                default:
                    return add(word, 0);
            }
        }

        private boolean finish() {
            storeHeld();
            dictionary.add(new Definition(name, size, words, numbers, loads, stores));
            on = false;
            return true;
        }

        /** Stores belong to the operation behind which they come. */
        private void storeHeld() {
            if (size > 0) {
                stores[size - 1] += held;
            }
            held = 0;
        }

        /** The place is where to go back to, or which operation's goal is still to be told. */
        private boolean open(Word word, int place) {
            if (openSize == OPEN_ROOM) {
                return false;
            }
            openWords[openSize] = word;
            openPlaces[openSize] = place;
            openSize++;
            return true;
        }

        private Word lastOpen() {
            return openSize > 0 ? openWords[openSize - 1] : null;
        }

        private int closeLast() {
            openSize--;
            return openPlaces[openSize];
        }

        private boolean turnIfToElse() {
            numbers[closeLast()] = size;
            return open(Word.ELSE, size - 1);
        }

        private boolean endCondition() {
            storeHeld();
            numbers[closeLast()] = size;
            return true;
        }

        private boolean goBack(Word word) {
            return add(word, closeLast());
        }

        private boolean endWhile() {
            int whilePlace = closeLast();
            boolean added = goBack(Word.REPEAT);
            numbers[whilePlace] = size;
            return added;
        }
    }

    /** A row of numbers with a top; who pushes and pops has looked at its size before. */
    private static final class Stack {
        private final int[] numbers = new int[STACK_ROOM];
        private int size;

        boolean hasRoom(int n) {
            return size + n <= STACK_ROOM;
        }

        void push(int number) {
            numbers[size] = number;
            size++;
        }

        int pop() {
            size--;
            return numbers[size];
        }

        int fromTop(int k) {
            return numbers[size - 1 - k];
        }
    }

    /**
     * Does words and runs definitions. What is held in registers stands in the data stack's top here:
     * how many are held at an operation is known when it is compiled, so its loads and stores need
     * only be counted.
     */
    private static final class Machine {
        private final Dictionary dictionary;
        private final Stack data = new Stack();
        private final Stack returns = new Stack();
        private final int[] space = new int[SPACE_ROOM];
        private final int[] spoken = new int[SAID_ROOM];
        private final int[] moved = new int[REGISTERS];
        private final Definition[] runs = new Definition[DEEP_LIMIT];
        private final int[] places = new int[DEEP_LIMIT];
        private int deep;
        private int cellsTaken;
        private int saidNumbers;
        private int steps;
        private int loads;
        private int stores;

        Machine(Dictionary dictionary) {
            this.dictionary = dictionary;
        }

        void beginText() {
            saidNumbers = 0;
            steps = 0;
            loads = 0;
            stores = 0;
        }

        void emptyStacks() {
            data.size = 0;
            returns.size = 0;
        }

        static boolean isCell(int k) {
            return k >= 0 && k < SPACE_ROOM;
        }

        /** Does a word of the text, with all operations of the definition if it is one. */
        Fault doWord(Word word, int number) {
            deep = 0;
            Fault fault = takeStep() ? perform(word, number) : Fault.STEPS_USED_UP;
            for (int n = 0; n <= STEP_LIMIT && deep > 0 && fault == Fault.NO_FAULT; n++) {
                Definition running = runs[deep - 1];
                int at = places[deep - 1];
                if (!takeStep()) {
                    return Fault.STEPS_USED_UP;
                }
                places[deep - 1] = at + 1;
                countLoads(running.words[at].takes, running.loads[at]);
                fault = perform(running.words[at], running.numbers[at]);
                if (fault == Fault.NO_FAULT) {
                    stores += running.stores[at];
                    leaveWhatEnded();
                }
            }
            return fault;
        }

        private boolean takeStep() {
            if (steps == STEP_LIMIT) {
                return false;
            }
            steps++;
            return true;
        }

        private void countLoads(int takes, int wanted) {
            int held = takes - wanted;
            loads += Math.min(wanted, data.size - held);
        }

        private void leaveWhatEnded() {
            if (places[deep - 1] == runs[deep - 1].size) {
                deep--;
            }
        }

        /**
         * The stack's room is looked at before the rest: nobody can tell, since the words that can
         * overfill it throw nothing else.
         */
        private Fault perform(Word word, int number) {
            if (data.size < word.takes || !data.hasRoom(word.gives.length() - word.takes)) {
                return Fault.REFUSED;
            }
            switch (word.kind) {
                case OF_TWO:
                    return performOfTwo(word);
                case OF_ONE:
                    data.push(ofOne(word, data.pop()));
                    return Fault.NO_FAULT;
                case MOVES:
                    return move(word);
                case MEMORY:
                    return useCell(word, data.pop());
                case RETURNS:
                    return useReturns(word);
                case PUTS:
                    return put(word, number);
                default:
                    return control(word, number);
            }
        }

        private Fault performOfTwo(Word word) {
            int b = data.pop();
            int a = data.pop();
            if (b == 0 && (word == Word.DIVIDE || word == Word.MOD)) {
                return Fault.DIVIDED_BY_0;
            }
            data.push(ofTwo(word, a, b));
            return Fault.NO_FAULT;
        }

        /** b has been looked at before it comes here as a divisor. */
        private static int ofTwo(Word word, int a, int b) {
            switch (word) {
                case ADD:
                    return a + b;
                case SUBTRACT:
                    return a - b;
                case MULTIPLY:
                    return a * b;
                case DIVIDE:
                    return a / b;
                case MOD:
                    return a % b;
                case AND:
                    return a & b;
                case OR:
                    return a | b;
                case XOR:
                    return a ^ b;
                case MIN:
                    return Math.min(a, b);
                case MAX:
                    return Math.max(a, b);
                case LESS:
                    return flag(a < b);
                case EQUAL:
                    return flag(a == b);
                default:
                    return flag(a > b);
            }
        }

        private static int ofOne(Word word, int a) {
            switch (word) {
                case NEGATE:
                    return -a;
                case INVERT:
                    return ~a;
                case ABS:
                    return Math.abs(a);
                case ONE_MORE:
                    return a + 1;
                case IS_0:
                    return flag(a == 0);
                default:
                    return flag(a < 0);
            }
        }

        private static int flag(boolean holds) {
            return holds ? -1 : 0;
        }

        /** What is given is written in letters, a being the lowest number that was taken. */
        private Fault move(Word word) {
            for (int i = word.takes - 1; i >= 0; i--) {
                moved[i] = data.pop();
            }
            for (int i = 0; i < word.gives.length(); i++) {
                data.push(moved[word.gives.charAt(i) - 'a']);
            }
            return Fault.NO_FAULT;
        }

        private Fault useCell(Word word, int k) {
            if (!isCell(k)) {
                return Fault.REFUSED;
            }
            switch (word) {
                case FETCH:
                    data.push(space[k]);
                    return Fault.NO_FAULT;
                case PUT:
                    space[k] = data.pop();
                    return Fault.NO_FAULT;
                default:
                    space[k] += data.pop();
                    return Fault.NO_FAULT;
            }
        }

        private Fault useReturns(Word word) {
            if (word == Word.TO_RETURNS) {
                if (!returns.hasRoom(1)) {
                    return Fault.REFUSED;
                }
                returns.push(data.pop());
                return Fault.NO_FAULT;
            }
            if (returns.size == 0) {
                return Fault.REFUSED;
            }
            data.push(word == Word.FROM_RETURNS ? returns.pop() : returns.fromTop(0));
            return Fault.NO_FAULT;
        }

        private Fault put(Word word, int number) {
            switch (word) {
                case DEPTH:
                    data.push(data.size);
                    return Fault.NO_FAULT;
                case SAY:
                    spoken[saidNumbers % SAID_ROOM] = data.pop();
                    saidNumbers++;
                    return Fault.NO_FAULT;
                default:
                    data.push(number);
                    return Fault.NO_FAULT;
            }
        }

        private Fault control(Word word, int number) {
            switch (word) {
                case IF:
                case UNTIL:
                case WHILE:
                    return data.pop() == 0 ? goOnAt(number) : Fault.NO_FAULT;
                case ELSE:
                case AGAIN:
                case REPEAT:
                    return goOnAt(number);
                case DO:
                    return beginLoop();
                case LOOP:
                    return endLoop(number);
                case EXIT:
                    return goOnAt(runs[deep - 1].size);
                case CALL:
                    return enter(dictionary.at(number));
                default:
                    return Fault.NO_FAULT;
            }
        }

        private Fault goOnAt(int place) {
            places[deep - 1] = place;
            return Fault.NO_FAULT;
        }

        private Fault beginLoop() {
            if (!returns.hasRoom(2)) {
                return Fault.REFUSED;
            }
            int start = data.pop();
            returns.push(data.pop());
            returns.push(start);
            return Fault.NO_FAULT;
        }

        private Fault endLoop(int place) {
            if (returns.size < 2) {
                return Fault.REFUSED;
            }
            int index = returns.pop() + 1;
            if (index == returns.fromTop(0)) {
                returns.pop();
                return Fault.NO_FAULT;
            }
            returns.push(index);
            return goOnAt(place);
        }

        private Fault enter(Definition definition) {
            if (definition == null || deep == DEEP_LIMIT) {
                return Fault.REFUSED;
            }
            runs[deep] = definition;
            places[deep] = 0;
            deep++;
            return Fault.NO_FAULT;
        }
    }
}
