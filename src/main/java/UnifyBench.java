import java.util.Arrays;
import java.util.NoSuchElementException;

/** Eight registers of terms with variables: read, made the same, compared, taken apart, undone and printed. */
public final class UnifyBench {
    private static final int BYTES_MOST = 4096;
    private static final int BYTES_FED = 20;
    private static final int REGISTERS = 8;
    private static final int MARKS_MOST = 30;
    private static final int NO_PLACE = -1;
    // No run comes near it: it only lets the end of a loop be seen.
    private static final int STEPS_MOST = 1000000;

    private final Bytes tape = new Bytes();
    private final Names names = new Names();
    private final Terms terms = new Terms();
    private final Reader reader = new Reader(new Signs(tape, names), names, terms);
    private final Unifier unifier = new Unifier(terms);
    private final Printer printer = new Printer(names, terms);
    private final int[] registers = new int[REGISTERS];
    private final Ints marked = new Ints();
    private int marks = 0;
    private int place = NO_PLACE;

    public UnifyBench() {
        Arrays.fill(registers, Terms.EMPTY_LIST);
    }

    public int feed(int a, int b, int c, int d, int e) throws IndexOutOfBoundsException {
        if (tape.size() + BYTES_FED > BYTES_MOST) {
            throw new IndexOutOfBoundsException();
        }
        addToTape(a);
        addToTape(b);
        addToTape(c);
        addToTape(d);
        addToTape(e);
        return tape.size();
    }

    public int end(int n) throws IllegalArgumentException {
        if (n < 0 || n > tape.size()) {
            throw new IllegalArgumentException();
        }
        tape.cut(n);
        return n;
    }

    public int read(int r) throws IllegalArgumentException, UnsupportedOperationException, IndexOutOfBoundsException {
        checkRegister(r);
        reader.takeTape();
        reader.keepOrForget();
        tape.cut(0);
        place = reader.brokenPlace();
        if (place != NO_PLACE) {
            throw new UnsupportedOperationException();
        }
        if (reader.isTooMuch()) {
            throw new IndexOutOfBoundsException();
        }
        registers[r] = reader.term();
        return reader.symbols();
    }

    public boolean unify(int a, int b) throws IllegalArgumentException {
        checkRegister(a);
        checkRegister(b);
        return unifier.makeSame(registers[a], registers[b]);
    }

    public boolean same(int a, int b) throws IllegalArgumentException {
        checkRegister(a);
        checkRegister(b);
        return unifier.areSame(registers[a], registers[b]);
    }

    public void part(int to, int a, int i) throws IllegalArgumentException, NoSuchElementException {
        checkRegister(to);
        checkRegister(a);
        if (i < 1) {
            throw new IllegalArgumentException();
        }
        int whole = terms.meant(registers[a]);
        if (i > terms.partsOf(whole)) {
            throw new NoSuchElementException();
        }
        registers[to] = terms.partAt(whole, i - 1);
    }

    public int mark() throws IndexOutOfBoundsException {
        if (marks >= MARKS_MOST) {
            throw new IndexOutOfBoundsException();
        }
        for (int i = 0; i < REGISTERS; i++) {
            marked.push(registers[i]);
        }
        terms.pushBindings(marked);
        marks++;
        return marks;
    }

    public int undo() throws NoSuchElementException {
        if (marks == 0) {
            throw new NoSuchElementException();
        }
        terms.popBindings(marked);
        for (int i = REGISTERS - 1; i >= 0; i--) {
            registers[i] = marked.pop();
        }
        marks--;
        return marks;
    }

    public void reset() {
        Arrays.fill(registers, Terms.EMPTY_LIST);
        terms.forgetAll();
        names.forgetAll();
        marked.cut(0);
        marks = 0;
    }

    public int print(int r) throws IllegalArgumentException, IndexOutOfBoundsException {
        checkRegister(r);
        if (!printer.show(registers[r])) {
            throw new IndexOutOfBoundsException();
        }
        return printer.result().size();
    }

    public long word(int i) throws IndexOutOfBoundsException {
        Bytes result = printer.result();
        if (i < 0 || i >= result.size()) {
            throw new IndexOutOfBoundsException();
        }
        long eight = 0;
        for (int k = 0; k < 8; k++) {
            eight = eight << 8 | result.at(i + k);
        }
        return eight;
    }

    public int count(int what) throws IllegalArgumentException {
        switch (what) {
            case 0:
                return tape.size();
            case 1:
                return printer.result().size();
            case 2:
                return place;
            case 3:
                return terms.boundVariables();
            default:
                throw new IllegalArgumentException();
        }
    }

    private void addToTape(int four) {
        for (int shift = 24; shift >= 0; shift -= 8) {
            tape.add(four >> shift);
        }
    }

    private static void checkRegister(int r) throws IllegalArgumentException {
        if (r < 0 || r >= REGISTERS) {
            throw new IllegalArgumentException();
        }
    }

    /** A row of bytes that grows. */
    private static final class Bytes {
        private byte[] items = new byte[64];
        private int size = 0;

        int size() {
            return size;
        }

        // Zero behind the end: a word of the result is filled up so, and no sign has a zero in it.
        int at(int i) {
            return i >= 0 && i < size ? items[i] & 255 : 0;
        }

        void add(int b) {
            if (size == items.length) {
                items = Arrays.copyOf(items, 2 * size);
            }
            items[size] = (byte) b;
            size++;
        }

        void cut(int length) {
            if (length >= 0 && length < size) {
                size = length;
            }
        }
    }

    /** A stack of ints that grows. */
    private static final class Ints {
        private int[] items = new int[64];
        private int size = 0;

        int size() {
            return size;
        }

        int at(int i) {
            return i >= 0 && i < size ? items[i] : 0;
        }

        void push(int item) {
            if (size == items.length) {
                items = Arrays.copyOf(items, 2 * size);
            }
            items[size] = item;
            size++;
        }

        int pop() {
            if (size == 0) {
                return 0;
            }
            size--;
            return items[size];
        }

        void cut(int length) {
            if (length >= 0 && length < size) {
                size = length;
            }
        }
    }

    /** The names that every object knows. Their order is that of their numbers in Names; a level of 0 is none. */
    private enum Known {
        EMPTY("[]", 0, 0, 0, 0),
        DOT(".", 0, 0, 0, 0),
        COMMA(",", 1000, 999, 1000, 0),
        MINUS("-", 500, 500, 499, 200),
        NOT("\\+", 0, 0, 0, 900),
        NECK(":-", 1200, 1199, 1199, 0),
        OR(";", 1100, 1099, 1100, 0),
        THEN("->", 1050, 1049, 1050, 0),
        UNIFIED("=", 700, 699, 699, 0),
        NOT_UNIFIED("\\=", 700, 699, 699, 0),
        SAME("==", 700, 699, 699, 0),
        NOT_SAME("\\==", 700, 699, 699, 0),
        IS("is", 700, 699, 699, 0),
        LESS("<", 700, 699, 699, 0),
        GREATER(">", 700, 699, 699, 0),
        AT_MOST("=<", 700, 699, 699, 0),
        AT_LEAST(">=", 700, 699, 699, 0),
        EQUAL("=:=", 700, 699, 699, 0),
        NOT_EQUAL("=\\=", 700, 699, 699, 0),
        PLUS("+", 500, 500, 499, 0),
        TIMES("*", 400, 400, 399, 0),
        DIVIDED("//", 400, 400, 399, 0),
        MOD("mod", 400, 400, 399, 0),
        REM("rem", 400, 400, 399, 0);

        private static final Known[] ALL = values();

        private final String text;
        // The level as an operator of two sides, and the greatest levels of what stands left and right of it.
        private final int level;
        private final int left;
        private final int right;
        private final int prefixLevel;

        Known(String text, int level, int left, int right, int prefixLevel) {
            this.text = text;
            this.level = level;
            this.left = left;
            this.right = right;
            this.prefixLevel = prefixLevel;
        }
    }

    /** Every text of a name or variable once, under a number, so that texts are compared by their numbers. */
    private static final class Names {
        static final int EMPTY = 0;
        static final int DOT = 1;
        static final int COMMA = 2;
        static final int MINUS = 3;
        static final int NAMELESS = -1;
        // 512 calls feed some 10000 bytes at most; this keeps an object small that is used beyond them.
        private static final int TEXTS_MOST = 1000000;
        private static final int ROWS = 128;

        private byte[] texts = new byte[256];
        private int textsSize = 0;
        private final Ints ends = new Ints();
        // Names of the same row are chained from the newest to the oldest, so the newest can be forgotten.
        private final Ints older = new Ints();
        private final int[] newest = new int[ROWS];
        private int sizeBefore = 0;

        Names() {
            Arrays.fill(newest, NAMELESS);
            for (int i = 0; i < Known.ALL.length; i++) {
                String text = Known.ALL[i].text;
                startText();
                for (int k = 0; k < text.length(); k++) {
                    addToText(text.charAt(k));
                }
                numberOfText();
            }
        }

        void startText() {
            textsSize = from(ends.size());
        }

        void addToText(int b) {
            if (textsSize == texts.length) {
                texts = Arrays.copyOf(texts, 2 * textsSize);
            }
            texts[textsSize] = (byte) b;
            textsSize++;
        }

        int numberOfText() {
            int start = from(ends.size());
            int row = rowOf(start, textsSize);
            int name = newest[row];
            for (int i = ends.size(); i > 0 && name >= 0; i--) {
                if (areSameTexts(from(name), to(name), start)) {
                    return name;
                }
                name = older.at(name);
            }
            ends.push(textsSize);
            older.push(newest[row]);
            newest[row] = ends.size() - 1;
            return newest[row];
        }

        int from(int name) {
            return name == 0 ? 0 : ends.at(name - 1);
        }

        int to(int name) {
            return ends.at(name);
        }

        int byteAt(int i) {
            return i >= 0 && i < textsSize ? texts[i] & 255 : 0;
        }

        int sidesLevel(int name) {
            return isKnown(name) ? Known.ALL[name].level : 0;
        }

        int leftMost(int name) {
            return isKnown(name) ? Known.ALL[name].left : 0;
        }

        int rightMost(int name) {
            return isKnown(name) ? Known.ALL[name].right : 0;
        }

        int prefixLevel(int name) {
            return isKnown(name) ? Known.ALL[name].prefixLevel : 0;
        }

        boolean isFull() {
            return from(ends.size()) > TEXTS_MOST;
        }

        void keepSize() {
            sizeBefore = ends.size();
        }

        void goBack() {
            forgetFrom(sizeBefore);
        }

        void forgetAll() {
            forgetFrom(Known.ALL.length);
        }

        private void forgetFrom(int first) {
            for (int name = ends.size() - 1; name >= first; name--) {
                newest[rowOf(from(name), to(name))] = older.pop();
                ends.pop();
            }
        }

        private static boolean isKnown(int name) {
            return name >= 0 && name < Known.ALL.length;
        }

        private int rowOf(int start, int end) {
            int mixed = 0;
            for (int i = start; i < end; i++) {
                mixed = mixed * 31 + byteAt(i);
            }
            return mixed & ROWS - 1;
        }

        private boolean areSameTexts(int from, int to, int start) {
            if (to - from != textsSize - start) {
                return false;
            }
            for (int i = from; i < to; i++) {
                if (texts[i] != texts[start + i - from]) {
                    return false;
                }
            }
            return true;
        }
    }

    /** What a byte of a sign can be. */
    private static final class Letters {
        private static final String SYMBOLS = "+-*/\\^<>=~:.?@#&$";
        private static final String MARKS = "()[]{},|";

        static boolean isBlank(int c) {
            return c == 9 || c == 10 || c == 13 || c == 32;
        }

        static boolean isDigit(int c) {
            return c >= '0' && c <= '9';
        }

        static boolean isSmall(int c) {
            return c >= 'a' && c <= 'z';
        }

        static boolean beginsVariable(int c) {
            return c >= 'A' && c <= 'Z' || c == '_';
        }

        static boolean isOfWord(int c) {
            return isSmall(c) || beginsVariable(c) || isDigit(c);
        }

        static boolean isSymbol(int c) {
            return SYMBOLS.indexOf((char) c) >= 0;
        }

        static boolean isMark(int c) {
            return MARKS.indexOf((char) c) >= 0;
        }

        static boolean isQuotable(int c) {
            return c >= 32 && c <= 126;
        }
    }

    /** The tape as signs, one at a time. The kind of ( ) [ ] { } , | is the byte itself. */
    private static final class Signs {
        static final int VARIABLE = 1;
        static final int INTEGER = 2;
        static final int NAME = 3;
        static final int END = 4;
        static final int TAPE_END = 5;
        static final int BAD = 6;
        private static final long INTEGER_MOST = (1L << 53) - 1;

        private final Bytes tape;
        private final Names names;
        private int kind = TAPE_END;
        private int place = 0;
        private int behind = 0;
        private boolean passed = true;
        private int name = 0;
        private long number = 0;

        Signs(Bytes tape, Names names) {
            this.tape = tape;
            this.names = names;
        }

        int kind() {
            return kind;
        }

        int place() {
            return place;
        }

        int behind() {
            return behind;
        }

        int name() {
            return name;
        }

        long number() {
            return number;
        }

        void goToFirst() {
            behind = 0;
            passed = true;
        }

        void pass() {
            passed = true;
        }

        void look() {
            if (!passed) {
                return;
            }
            passed = false;
            place = firstNotBlank(behind);
            int c = tape.at(place);
            if (place >= tape.size()) {
                takeTo(TAPE_END, place);
            } else if (Letters.beginsVariable(c)) {
                takeVariable();
            } else if (Letters.isSmall(c)) {
                takeName(wordEnd());
            } else if (Letters.isDigit(c)) {
                takeInteger();
            } else if (c == '\'') {
                takeQuoted();
            } else if (Letters.isSymbol(c)) {
                takeSymbols();
            } else if (c == '!' || c == ';') {
                takeName(place + 1);
            } else if (c == '[' && tape.at(place + 1) == ']') {
                takeName(place + 2);
            } else {
                takeTo(Letters.isMark(c) ? c : BAD, place + 1);
            }
        }

        private int firstNotBlank(int from) {
            boolean inComment = false;
            for (int i = from; i < tape.size(); i++) {
                int c = tape.at(i);
                if (inComment) {
                    inComment = c != 10;
                } else if (c == '%') {
                    inComment = true;
                } else if (!Letters.isBlank(c)) {
                    return i;
                }
            }
            return tape.size();
        }

        private void takeTo(int kindTaken, int end) {
            kind = kindTaken;
            behind = end;
        }

        private int wordEnd() {
            int end = place;
            while (end < tape.size() && Letters.isOfWord(tape.at(end))) {
                end++;
            }
            return end;
        }

        private void takeName(int end) {
            names.startText();
            for (int i = place; i < end; i++) {
                names.addToText(tape.at(i));
            }
            name = names.numberOfText();
            takeTo(NAME, end);
        }

        private void takeVariable() {
            boolean alone = tape.at(place) == '_' && !Letters.isOfWord(tape.at(place + 1));
            takeName(wordEnd());
            kind = VARIABLE;
            if (alone) {
                name = Names.NAMELESS;
            }
        }

        private void takeInteger() {
            number = 0;
            int end = place;
            while (end < tape.size() && Letters.isDigit(tape.at(end))) {
                // Held just above the greatest, so that no run of digits can wrap around.
                number = Math.min(number * 10 + tape.at(end) - '0', INTEGER_MOST + 1);
                end++;
            }
            takeTo(number > INTEGER_MOST ? BAD : INTEGER, end);
        }

        private void takeSymbols() {
            int end = place;
            while (end < tape.size() && Letters.isSymbol(tape.at(end))) {
                end++;
            }
            if (end == place + 1 && tape.at(place) == '.' && isBehindEnd(end)) {
                takeTo(END, end);
            } else {
                takeName(end);
            }
        }

        private boolean isBehindEnd(int i) {
            return i >= tape.size() || Letters.isBlank(tape.at(i)) || tape.at(i) == '%';
        }

        private void takeQuoted() {
            names.startText();
            takeTo(BAD, place + 1);
            for (int i = place + 1; i < tape.size() && Letters.isQuotable(tape.at(i)); i++) {
                if (tape.at(i) == '\'') {
                    i++;
                    if (tape.at(i) != '\'') {
                        name = names.numberOfText();
                        takeTo(NAME, i);
                        return;
                    }
                }
                names.addToText(tape.at(i));
            }
        }
    }

    /** The nodes of all terms that were read, and what variables became. Nodes 0 .. 199 are the variables. */
    private static final class Terms {
        static final int VARIABLES_MOST = 200;
        static final int EMPTY_LIST = VARIABLES_MOST;
        private static final int SYMBOLS_MOST = 400000;
        private static final int FIRST_NODE = EMPTY_LIST + 1;
        private static final int VARIABLE = -2;
        private static final int INTEGER = -1;
        private static final int ATOM = 0;
        private static final int NOTHING = -1;

        // VARIABLE, INTEGER or ATOM; a compound's is the number of its parts.
        private int[] shapes = new int[2 * VARIABLES_MOST];
        private long[] values = new long[2 * VARIABLES_MOST];
        private int[] firstParts = new int[2 * VARIABLES_MOST];
        private int nodes = FIRST_NODE;
        private final Ints parts = new Ints();
        private final int[] variableNames = new int[VARIABLES_MOST];
        private final int[] became = new int[VARIABLES_MOST];
        private int variables = 0;
        private boolean variablesLack = false;
        private int symbols = 0;
        private int nodesBefore = FIRST_NODE;
        private int partsBefore = 0;
        private int variablesBefore = 0;

        Terms() {
            for (int i = 0; i < VARIABLES_MOST; i++) {
                shapes[i] = VARIABLE;
                became[i] = NOTHING;
            }
            shapes[EMPTY_LIST] = ATOM;
            values[EMPTY_LIST] = Names.EMPTY;
        }

        int nodes() {
            return nodes;
        }

        int variables() {
            return variables;
        }

        void keepSize() {
            nodesBefore = nodes;
            partsBefore = parts.size();
            variablesBefore = variables;
            variablesLack = false;
        }

        void goBack() {
            nodes = nodesBefore;
            parts.cut(partsBefore);
            variables = variablesBefore;
        }

        boolean hasRoomFor(int more) {
            return !variablesLack && symbols + more <= SYMBOLS_MOST;
        }

        void countSymbols(int more) {
            symbols += more;
        }

        void forgetAll() {
            nodes = FIRST_NODE;
            parts.cut(0);
            variables = 0;
            symbols = 0;
            Arrays.fill(became, NOTHING);
        }

        int atom(int name) {
            return newNode(ATOM, name);
        }

        int integer(long number) {
            return newNode(INTEGER, number);
        }

        int compound(int name, Ints stack, int howMany) {
            int node = newNode(howMany, name);
            for (int i = stack.size() - howMany; i < stack.size(); i++) {
                parts.push(stack.at(i));
            }
            return node;
        }

        int variable(int name) {
            for (int i = 0; i < variables && name != Names.NAMELESS; i++) {
                if (variableNames[i] == name) {
                    return i;
                }
            }
            if (variables == VARIABLES_MOST) {
                // Any node will do: the term is refused, but only if nothing in it is broken.
                variablesLack = true;
                return EMPTY_LIST;
            }
            variableNames[variables] = name;
            variables++;
            return variables - 1;
        }

        boolean isVariable(int node) {
            return shapes[node] == VARIABLE;
        }

        boolean isInteger(int node) {
            return shapes[node] == INTEGER;
        }

        boolean isEmptyList(int node) {
            return shapes[node] == ATOM && values[node] == Names.EMPTY;
        }

        boolean isListCell(int node) {
            return shapes[node] == 2 && values[node] == Names.DOT;
        }

        boolean areAlike(int a, int b) {
            return shapes[a] == shapes[b] && values[a] == values[b];
        }

        long number(int node) {
            return values[node];
        }

        int name(int node) {
            return (int) values[node];
        }

        int partsOf(int node) {
            return Math.max(shapes[node], 0);
        }

        int partAt(int node, int i) {
            return parts.at(firstParts[node] + i);
        }

        int meant(int node) {
            int at = node;
            for (int i = 0; i < VARIABLES_MOST && at < VARIABLES_MOST && became[at] != NOTHING; i++) {
                at = became[at];
            }
            return at;
        }

        void bind(int variable, int node) {
            became[variable] = node;
        }

        int boundVariables() {
            int bound = 0;
            for (int i = 0; i < variables; i++) {
                if (became[i] != NOTHING) {
                    bound++;
                }
            }
            return bound;
        }

        // All 200, so that those which come later are nothing again when these are popped.
        void pushBindings(Ints stack) {
            for (int i = 0; i < VARIABLES_MOST; i++) {
                stack.push(became[i]);
            }
        }

        void popBindings(Ints stack) {
            for (int i = VARIABLES_MOST - 1; i >= 0; i--) {
                became[i] = stack.pop();
            }
        }

        private int newNode(int shape, long value) {
            if (nodes == shapes.length) {
                shapes = Arrays.copyOf(shapes, 2 * nodes);
                values = Arrays.copyOf(values, 2 * nodes);
                firstParts = Arrays.copyOf(firstParts, 2 * nodes);
            }
            shapes[nodes] = shape;
            values[nodes] = value;
            firstParts[nodes] = parts.size();
            nodes++;
            return nodes - 1;
        }
    }

    /** A T(n) that is begun and not ended. */
    private static final class OpenTerm {
        private int most = 0;
        // The level of what has been read of it.
        private int level = 0;
        // What the term within it is that is read now.
        private int awaits = 0;
        private int name = 0;
        private int nameLevel = 0;
        private int parts = 0;

        void beginWith(int mostLevel) {
            most = mostLevel;
            level = 0;
            awaits = 0;
            parts = 0;
        }

        void awaitOperand(int kind, int operator, int operatorLevel) {
            awaits = kind;
            name = operator;
            nameLevel = operatorLevel;
        }

        void awaitPart(int kind, int compoundName) {
            awaits = kind;
            name = compoundName;
            parts = 1;
        }
    }

    /**
     * Reads the tape without recursion: the terms that are begun stand on a stack of their own, and each step looks at
     * one sign from one of the states.
     */
    private static final class Reader {
        private static final int DEPTH_MOST = 100;
        private static final int SYMBOLS_MOST = 1000;
        private static final int PARTS_MOST = 8;
        private static final int TERM_LEVEL = 1200;
        private static final int PART_LEVEL = 999;
        // The states: where the sign stands that is looked at.
        private static final int AT_TERM = 1;
        private static final int BEHIND_NAME = 2;
        private static final int BEHIND_LEFT_SIDE = 3;
        private static final int BEHIND_INNER = 4;
        private static final int BEHIND_ALL = 5;
        private static final int BEHIND_END = 6;
        private static final int DONE = 7;
        // What an open term awaits.
        private static final int RIGHT_SIDE = 1;
        private static final int OPERAND = 2;
        private static final int ROUND = 3;
        private static final int PARTS = 4;
        private static final int ITEMS = 5;
        private static final int TAIL = 6;

        private final Signs signs;
        private final Names names;
        private final Terms terms;
        private final OpenTerm[] open = new OpenTerm[DEPTH_MOST];
        private int depth = 0;
        private int state = DONE;
        private int nextMost = 0;
        private int lastName = 0;
        private int lastBehind = 0;
        private final Ints values = new Ints();
        private int symbols = 0;
        private int first = 0;
        private int broken = NO_PLACE;
        private boolean tooMuch = false;

        Reader(Signs signs, Names names, Terms terms) {
            this.signs = signs;
            this.names = names;
            this.terms = terms;
            for (int i = 0; i < DEPTH_MOST; i++) {
                open[i] = new OpenTerm();
            }
        }

        int brokenPlace() {
            return broken;
        }

        boolean isTooMuch() {
            return tooMuch;
        }

        int term() {
            return values.at(0);
        }

        int symbols() {
            return symbols;
        }

        void takeTape() {
            begin();
            for (int step = 0; step < STEPS_MOST && state != DONE && broken == NO_PLACE; step++) {
                signs.look();
                switch (state) {
                    case AT_TERM:
                        beginTerm();
                        break;
                    case BEHIND_NAME:
                        goOnBehindName(open[depth - 1]);
                        break;
                    case BEHIND_LEFT_SIDE:
                        goOnBehindLeftSide(open[depth - 1]);
                        break;
                    case BEHIND_INNER:
                        goOnBehindInner(open[depth - 1]);
                        break;
                    case BEHIND_ALL:
                        passOnly(Signs.END, BEHIND_END);
                        break;
                    default:
                        passOnly(Signs.TAPE_END, DONE);
                        break;
                }
            }
        }

        // A term with too many symbols is broken only if nothing else is, and before variables are too many.
        void keepOrForget() {
            if (broken == NO_PLACE && symbols > SYMBOLS_MOST) {
                broken = first;
            }
            tooMuch = !terms.hasRoomFor(symbols) || names.isFull();
            if (broken != NO_PLACE || tooMuch) {
                terms.goBack();
                names.goBack();
            } else {
                terms.countSymbols(symbols);
            }
        }

        private void begin() {
            names.keepSize();
            terms.keepSize();
            values.cut(0);
            symbols = 0;
            depth = 0;
            broken = NO_PLACE;
            signs.goToFirst();
            awaitTerm(TERM_LEVEL);
        }

        private void awaitTerm(int most) {
            state = AT_TERM;
            nextMost = most;
        }

        private void breakHere() {
            broken = signs.place();
        }

        private void passOnly(int kind, int stateBehind) {
            if (signs.kind() == kind) {
                signs.pass();
                state = stateBehind;
            } else {
                breakHere();
            }
        }

        private void beginTerm() {
            if (depth == 0) {
                first = signs.place();
            }
            if (depth == DEPTH_MOST || isPartTooMany()) {
                breakHere();
                return;
            }
            OpenTerm term = open[depth];
            depth++;
            term.beginWith(nextMost);
            takeFirstSign(term);
        }

        private boolean isPartTooMany() {
            return depth > 0 && open[depth - 1].awaits == PARTS && open[depth - 1].parts > PARTS_MOST;
        }

        private void takeFirstSign(OpenTerm term) {
            switch (signs.kind()) {
                case Signs.NAME:
                    lastName = signs.name();
                    lastBehind = signs.behind();
                    state = BEHIND_NAME;
                    break;
                case Signs.VARIABLE:
                    addValue(terms.variable(signs.name()));
                    break;
                case Signs.INTEGER:
                    addInteger(signs.number());
                    break;
                case '(':
                    term.awaitPart(ROUND, Names.EMPTY);
                    awaitTerm(TERM_LEVEL);
                    break;
                case '[':
                    term.awaitPart(ITEMS, Names.DOT);
                    awaitTerm(PART_LEVEL);
                    break;
                default:
                    breakHere();
                    break;
            }
            signs.pass();
        }

        private void goOnBehindName(OpenTerm term) {
            boolean isNear = signs.place() == lastBehind;
            int prefixLevel = names.prefixLevel(lastName);
            if (isNear && signs.kind() == '(') {
                signs.pass();
                term.awaitPart(PARTS, lastName);
                awaitTerm(PART_LEVEL);
            } else if (isNear && lastName == Names.MINUS && signs.kind() == Signs.INTEGER) {
                signs.pass();
                addInteger(-signs.number());
            } else if (prefixLevel > 0 && prefixLevel <= term.most && canTermBegin()) {
                term.awaitOperand(OPERAND, lastName, prefixLevel);
                awaitTerm(prefixLevel);
            } else {
                addAtom(lastName);
            }
        }

        private boolean canTermBegin() {
            switch (signs.kind()) {
                case ')':
                case ']':
                case '}':
                case ',':
                case '|':
                case Signs.END:
                    return false;
                default:
                    return sidesOperator() == Names.NAMELESS || names.prefixLevel(signs.name()) > 0;
            }
        }

        // The comma in ' ' has the same number as the sign, but is no operator.
        private int sidesOperator() {
            if (signs.kind() == ',') {
                return Names.COMMA;
            }
            boolean isOne = signs.kind() == Signs.NAME && signs.name() != Names.COMMA
                    && names.sidesLevel(signs.name()) > 0;
            return isOne ? signs.name() : Names.NAMELESS;
        }

        private void goOnBehindLeftSide(OpenTerm term) {
            int operator = sidesOperator();
            int level = names.sidesLevel(operator);
            if (level > 0 && level <= term.most && term.level <= names.leftMost(operator)) {
                signs.pass();
                term.awaitOperand(RIGHT_SIDE, operator, level);
                awaitTerm(names.rightMost(operator));
            } else {
                depth--;
                state = depth > 0 ? BEHIND_INNER : BEHIND_ALL;
            }
        }

        private void goOnBehindInner(OpenTerm term) {
            switch (term.awaits) {
                case RIGHT_SIDE:
                    term.level = term.nameLevel;
                    addCompound(term.name, 2);
                    break;
                case OPERAND:
                    term.level = term.nameLevel;
                    addCompound(term.name, 1);
                    break;
                case ROUND:
                    passOnly(')', BEHIND_LEFT_SIDE);
                    break;
                case PARTS:
                    goOnBehindPart(term);
                    break;
                case ITEMS:
                    goOnBehindItem(term);
                    break;
                default:
                    closeList(term);
                    break;
            }
        }

        private void goOnBehindPart(OpenTerm term) {
            if (signs.kind() == ',') {
                signs.pass();
                term.parts++;
                awaitTerm(PART_LEVEL);
                return;
            }
            passOnly(')', BEHIND_LEFT_SIDE);
            addCompound(term.name, term.parts);
        }

        private void goOnBehindItem(OpenTerm term) {
            if (signs.kind() == ',') {
                signs.pass();
                term.parts++;
                awaitTerm(PART_LEVEL);
            } else if (signs.kind() == '|') {
                signs.pass();
                term.awaits = TAIL;
                awaitTerm(PART_LEVEL);
            } else {
                // A list without a tail ends as one does behind the tail [].
                term.awaits = TAIL;
                addAtom(Names.EMPTY);
                state = BEHIND_INNER;
            }
        }

        private void closeList(OpenTerm term) {
            passOnly(']', BEHIND_LEFT_SIDE);
            for (int i = 0; i < term.parts; i++) {
                addCompound(term.name, 2);
            }
        }

        private void addInteger(long number) {
            addValue(hasRoom() ? terms.integer(number) : Terms.EMPTY_LIST);
        }

        private void addAtom(int name) {
            addValue(hasRoom() ? terms.atom(name) : Terms.EMPTY_LIST);
        }

        private void addCompound(int name, int howMany) {
            int node = hasRoom() ? terms.compound(name, values, howMany) : Terms.EMPTY_LIST;
            values.cut(values.size() - howMany);
            addValue(node);
        }

        private void addValue(int node) {
            symbols++;
            values.push(node);
            state = BEHIND_LEFT_SIDE;
        }

        // A term with more symbols is only looked through for what is broken in it, and not built.
        private boolean hasRoom() {
            return symbols < SYMBOLS_MOST;
        }
    }

    /**
     * Makes terms the same, or compares them. Nodes that must be the same are joined to classes first, and only then
     * is it seen whether one stands in itself: each node is so looked at once, however often it stands in a term.
     */
    private static final class Unifier {
        private static final int NEW = 0;
        private static final int BEGUN = 1;
        private static final int DONE = 2;

        private final Terms terms;
        // The node that a node is joined to, plus 1; all 0 between calls, as are the states.
        private int[] links = new int[0];
        private int[] states = new int[0];
        private final Ints pairs = new Ints();
        private final Ints joined = new Ints();
        private final Ints seen = new Ints();
        private final Ints path = new Ints();

        Unifier(Terms terms) {
            this.terms = terms;
        }

        boolean makeSame(int a, int b) {
            makeRoom();
            boolean can = joinAll(a, b, true) && standsInNone(a);
            if (can) {
                bindJoined();
            }
            clear();
            return can;
        }

        boolean areSame(int a, int b) {
            makeRoom();
            boolean are = joinAll(a, b, false);
            clear();
            return are;
        }

        private void makeRoom() {
            if (links.length < terms.nodes()) {
                links = new int[2 * terms.nodes()];
                states = new int[2 * terms.nodes()];
            }
        }

        private void clear() {
            for (int i = 0; i < joined.size(); i++) {
                links[joined.at(i)] = 0;
            }
            for (int i = 0; i < seen.size(); i++) {
                states[seen.at(i)] = NEW;
            }
            joined.cut(0);
            seen.cut(0);
            pairs.cut(0);
            path.cut(0);
        }

        private boolean joinAll(int a, int b, boolean mayBind) {
            pairs.push(a);
            pairs.push(b);
            for (int step = 0; step < STEPS_MOST && pairs.size() > 0; step++) {
                int right = rootOf(pairs.pop());
                int left = rootOf(pairs.pop());
                if (left != right && !joinRoots(left, right, mayBind)) {
                    return false;
                }
            }
            return pairs.size() == 0;
        }

        private boolean joinRoots(int left, int right, boolean mayBind) {
            if (terms.isVariable(left)) {
                link(left, right);
                return mayBind;
            }
            if (terms.isVariable(right)) {
                link(right, left);
                return mayBind;
            }
            if (!terms.areAlike(left, right)) {
                return false;
            }
            link(left, right);
            for (int i = terms.partsOf(left) - 1; i >= 0; i--) {
                pairs.push(terms.partAt(left, i));
                pairs.push(terms.partAt(right, i));
            }
            return true;
        }

        // A variable is linked to a term, never a term to a variable: the root of a class is a term if it has one.
        private void link(int node, int to) {
            links[node] = to + 1;
            joined.push(node);
        }

        private int rootOf(int node) {
            int at = terms.meant(node);
            for (int step = 0; step < STEPS_MOST && links[at] != 0; step++) {
                int next = links[at] - 1;
                if (links[next] != 0) {
                    links[at] = links[next];
                }
                at = next;
            }
            return at;
        }

        private boolean standsInNone(int node) {
            enter(rootOf(node));
            for (int step = 0; step < STEPS_MOST && path.size() > 0; step++) {
                int next = path.pop();
                int whole = path.pop();
                if (next == terms.partsOf(whole)) {
                    states[whole] = DONE;
                    continue;
                }
                path.push(whole);
                path.push(next + 1);
                int inner = rootOf(terms.partAt(whole, next));
                if (states[inner] == BEGUN) {
                    return false;
                }
                if (states[inner] == NEW) {
                    enter(inner);
                }
            }
            return path.size() == 0;
        }

        private void enter(int node) {
            states[node] = BEGUN;
            seen.push(node);
            path.push(node);
            path.push(0);
        }

        private void bindJoined() {
            for (int i = 0; i < terms.variables(); i++) {
                if (links[i] != 0) {
                    terms.bind(i, rootOf(i));
                }
            }
        }
    }

    /** Prints a term into a draft, which becomes the result if it is not too long. */
    private static final class Printer {
        private static final long GREATEST_UNIT = 1000000000000000L;
        private static final int NO_NUMBER = -1;

        private final Names names;
        private final Terms terms;
        private Bytes result = new Bytes();
        private Bytes draft = new Bytes();
        // Of each compound that is begun: its node, and how many of its parts are begun.
        private final Ints path = new Ints();
        private final int[] numbers = new int[Terms.VARIABLES_MOST];
        private int numbered = 0;

        Printer(Names names, Terms terms) {
            this.names = names;
            this.terms = terms;
        }

        Bytes result() {
            return result;
        }

        boolean show(int node) {
            draft.cut(0);
            path.cut(0);
            Arrays.fill(numbers, NO_NUMBER);
            numbered = 0;
            begin(node);
            for (int step = 0; step < STEPS_MOST && path.size() > 0 && draft.size() <= BYTES_MOST; step++) {
                int begun = path.pop();
                int whole = path.pop();
                if (terms.isListCell(whole)) {
                    goOnInList(whole, begun);
                } else {
                    goOnInCompound(whole, begun);
                }
            }
            boolean fits = draft.size() <= BYTES_MOST;
            if (fits) {
                Bytes old = result;
                result = draft;
                draft = old;
            }
            return fits;
        }

        private void begin(int node) {
            int meant = terms.meant(node);
            if (terms.isVariable(meant)) {
                add('_');
                addNumber(numberOf(meant));
            } else if (terms.isInteger(meant)) {
                addNumber(terms.number(meant));
            } else if (terms.isListCell(meant)) {
                goInto(meant, 0);
            } else {
                addName(terms.name(meant));
                if (terms.partsOf(meant) > 0) {
                    goInto(meant, 0);
                }
            }
        }

        private void goInto(int node, int begun) {
            path.push(node);
            path.push(begun);
        }

        private void goOnInCompound(int node, int begun) {
            if (begun == terms.partsOf(node)) {
                add(')');
                return;
            }
            add(begun == 0 ? '(' : ',');
            goInto(node, begun + 1);
            begin(terms.partAt(node, begun));
        }

        private void goOnInList(int cell, int begun) {
            int tail = terms.meant(terms.partAt(cell, 1));
            if (begun == 0) {
                add('[');
                goInto(cell, 1);
                begin(terms.partAt(cell, 0));
            } else if (begun == 2 || terms.isEmptyList(tail)) {
                add(']');
            } else if (terms.isListCell(tail)) {
                add(',');
                goInto(tail, 1);
                begin(terms.partAt(tail, 0));
            } else {
                add('|');
                goInto(cell, 2);
                begin(tail);
            }
        }

        private int numberOf(int variable) {
            if (numbers[variable] == NO_NUMBER) {
                numbers[variable] = numbered;
                numbered++;
            }
            return numbers[variable];
        }

        private void addNumber(long number) {
            if (number < 0) {
                add('-');
            }
            long size = Math.abs(number);
            for (long unit = GREATEST_UNIT; unit > 0; unit /= 10) {
                if (size >= unit || unit == 1) {
                    add((int) ('0' + size / unit % 10));
                }
            }
        }

        private void addName(int name) {
            boolean quoted = !isPlain(name);
            if (quoted) {
                add('\'');
            }
            for (int i = names.from(name); i < names.to(name); i++) {
                add(names.byteAt(i));
                if (names.byteAt(i) == '\'') {
                    add('\'');
                }
            }
            if (quoted) {
                add('\'');
            }
        }

        private boolean isPlain(int name) {
            int from = names.from(name);
            int first = names.byteAt(from);
            if (name == Names.EMPTY) {
                return true;
            }
            if (name == Names.DOT || from == names.to(name)) {
                return false;
            }
            if (names.to(name) - from == 1 && (first == '!' || first == ';')) {
                return true;
            }
            boolean isWord = Letters.isSmall(first);
            for (int i = from; i < names.to(name); i++) {
                int c = names.byteAt(i);
                if (isWord ? !Letters.isOfWord(c) : !Letters.isSymbol(c)) {
                    return false;
                }
            }
            return true;
        }

        // One byte too many is kept, to be seen; more would only take room.
        private void add(int b) {
            if (draft.size() <= BYTES_MOST) {
                draft.add(b);
            }
        }
    }
}
