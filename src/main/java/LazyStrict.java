/**
 * A small lazy language: texts of functions are read, typed, analysed for what is strict, and run.
 *
 * All rows are made once, with the object, and used again by every call.
 */
public final class LazyStrict {
    public static final int NONE = -1;

    private static final int MOST_OCTETS = 4000;
    private static final int MOST_TOKENS = 1200;
    private static final int MOST_LETTERS = 12;
    private static final int GREATEST_NUMBER = 2147483647;
    private static final int MOST_FUNCTIONS = 40;
    private static final int MOST_PARAMETERS = 8;
    private static final int MOST_LOCALS = 30;
    private static final int MOST_AROUND = 29;
    private static final int MOST_SIGNS = 10;
    private static final int MOST_CASES = 1000;
    private static final int MOST_STEPS = 50000;

    private static final int FAULT_TOKEN = 1;
    private static final int FAULT_GRAMMAR = 2;
    private static final int FAULT_NESTING = 3;
    private static final int FAULT_COUNT = 4;
    private static final int FAULT_TWICE = 5;
    private static final int FAULT_UNKNOWN = 6;
    private static final int FAULT_TYPE = 7;
    private static final int FAULT_CASES = 8;

    // The kinds of tokens; the words and the signs stand in the document's order.
    private static final int END = 0;
    private static final int NAME = 1;
    private static final int NUMBER = 2;
    private static final int INT = 3;
    private static final int LIST = 4;
    private static final int LET = 5;
    private static final int IN = 6;
    private static final int IF = 7;
    private static final int THEN = 8;
    private static final int ELSE = 9;
    private static final int CASE = 10;
    private static final int OF = 11;
    private static final int EMPTY = 12;
    private static final int NIL = 13;
    private static final int CONS = 14;
    private static final int ERROR = 15;
    private static final int OPEN = 16;
    private static final int CLOSE = 17;
    private static final int COLON = 18;
    private static final int EQUALS = 19;
    private static final int SEMICOLON = 20;
    private static final int ARROW = 21;
    private static final int BAR = 22;
    private static final int PLUS = 23;
    private static final int MINUS = 24;
    private static final int TIMES = 25;
    private static final int OVER = 26;
    private static final int LESS = 27;
    // A node has the kind of the token at its main place, but a NAME is one of these two.
    private static final int LOCAL = 28;
    private static final int CALL = 29;

    private static final String WORDS = "int list let in if then else case of empty nil cons error ";

    // The bases, as types.
    private static final int INT_TYPE = 0;
    private static final int LIST_TYPE = 1;
    private static final int FIRST_OF_ONE = 2;
    private static final int FIRST_OF_TWO = 6;

    // How a run ends.
    private static final int GOING = 0;
    private static final int WELL = 1;
    private static final int DIVERGES = 2;
    private static final int SPENT = 3;
    private static final int DEEP = 4;
    private static final int FULL = 5;

    // What told() tells of a run, by its number.
    private static final int STEPS = 0;
    private static final int PUT_OFF = 1;
    private static final int NOT_DONE = 2;
    private static final int CELLS = 3;
    private static final int DEEPEST = 4;
    private static final int RESULT = 5;
    private static final int GONE_ALONG = 6;
    private static final int NIL_BEHIND = 7;
    private static final int CALLS = 8;
    private static final int WORKED_STRICT = 9;
    private static final int TOLD_SIZE = 10;

    private final Ints text = new Ints(MOST_OCTETS);
    private final Ints arguments = new Ints(MOST_PARAMETERS);
    private final Fault fault = new Fault();
    private final Tokens tokens = new Tokens();
    private final Tree tree = new Tree();
    private final Functions table = new Functions();
    private final Reader reader = new Reader(tokens, tree, table, fault);
    private final Typing typing = new Typing(tokens, tree, table, fault);
    private final Analysis analysis = new Analysis(tree, table);
    private final Machine machine = new Machine(tokens, tree, table);
    private int size;
    private int given;
    private boolean compiled;

    public LazyStrict() {
    }

    public int feed(int n, long octets) throws IllegalArgumentException {
        if (n < 1 || n > 8 || size + n > MOST_OCTETS) {
            throw new IllegalArgumentException("not 1 to 8 octets, or the text would be too long");
        }
        for (int i = 0; i < n; i++) {
            text.put(size + i, (int) (octets >>> (8 * i)) & 255);
        }
        size += n;
        forget();
        return size;
    }

    public int wipe() {
        int before = size;
        size = 0;
        forget();
        return before;
    }

    public int compile() {
        if (!compiled) {
            compiled = true;
            fault.clear();
            tokens.split(text, size, fault);
            reader.readProgram();
            typing.check();
            analysis.analyse(fault);
        }
        return fault.isTold() ? -fault.number : table.size;
    }

    public int place() {
        return compiled && fault.isTold() ? fault.at : NONE;
    }

    public int functions() {
        return isUsable() ? table.size : 0;
    }

    public int function(int f, int what) throws IndexOutOfBoundsException {
        if (!hasFunction(f) || what < 0 || what > 6) {
            throw new IndexOutOfBoundsException("no such function, or nothing to tell by this number");
        }
        switch (what) {
            case 0:
                return table.parameters.at(f);
            case 1:
                return table.base.at(f);
            case 2:
                return table.cases.at(f);
            case 3:
                return table.locals.at(f);
            case 4:
                return analysis.countLets(f, false);
            case 5:
                return analysis.countLets(f, true);
            default:
                return tokens.place.at(table.name.at(f));
        }
    }

    public int parameter(int f, int i, int what) throws IndexOutOfBoundsException {
        if (!hasFunction(f) || i < 0 || i >= table.parameters.at(f) || what < 0 || what > 1) {
            throw new IndexOutOfBoundsException("no such parameter, or nothing to tell by this number");
        }
        return what == 0 ? table.typeOf(f, i) : table.strictOf(f, i);
    }

    public int value(int f, int number) throws IndexOutOfBoundsException {
        if (!hasFunction(f) || number < 0 || number >= table.cases.at(f)) {
            throw new IndexOutOfBoundsException("no such case");
        }
        return analysis.pointOfCase(f, number);
    }

    public int rounds() {
        return isUsable() ? analysis.round : 0;
    }

    public int isStrict(int place) {
        if (!isUsable()) {
            return NONE;
        }
        for (int node = 1; node <= tree.size; node++) {
            if (tree.kind.at(node) == LET && tokens.place.at(tree.token.at(node)) == place) {
                return tree.strict.at(node);
            }
        }
        return NONE;
    }

    public int argument(int v) throws IllegalStateException {
        if (given >= MOST_PARAMETERS) {
            throw new IllegalStateException("there are eight arguments");
        }
        arguments.put(given, v);
        given++;
        return given;
    }

    public int run(int f, int steps, boolean quick)
            throws IndexOutOfBoundsException, IllegalArgumentException {
        if (!hasFunction(f)) {
            throw new IndexOutOfBoundsException("no such function");
        }
        if (steps < 0 || steps > MOST_STEPS || !table.takesInts(f, given)) {
            throw new IllegalArgumentException("a wrong number of steps, or arguments that do not fit");
        }
        given = 0;
        return machine.runFunction(f, arguments, steps, quick);
    }

    public int told(int what) throws IndexOutOfBoundsException {
        if (what < 0 || what >= TOLD_SIZE) {
            throw new IndexOutOfBoundsException("nothing is told by this number");
        }
        return machine.counts.at(what);
    }

    public int element(int i) throws IndexOutOfBoundsException {
        if (i < 0 || i >= machine.counts.at(GONE_ALONG)) {
            throw new IndexOutOfBoundsException("no such cell was gone along");
        }
        return machine.elements.at(i);
    }

    private void forget() {
        compiled = false;
        given = 0;
        machine.counts.clear();
    }

    private boolean isUsable() {
        return compiled && !fault.isTold();
    }

    private boolean hasFunction(int f) {
        return isUsable() && f >= 0 && f < table.size;
    }

    /** A row of ints: outside of it all is 0, and nothing is kept. */
    private static final class Ints {
        private final int[] row;

        Ints(int length) {
            row = new int[length >= 0 ? length : 0];
        }

        int at(int i) {
            return i >= 0 && i < row.length ? row[i] : 0;
        }

        void put(int i, int v) {
            if (i >= 0 && i < row.length) {
                row[i] = v;
            }
        }

        void add(int i, int v) {
            put(i, at(i) + v);
        }

        void clear() {
            for (int i = 0; i < row.length; i++) {
                row[i] = 0;
            }
        }
    }

    /** A row of longs: outside of it all is 0, and nothing is kept. */
    private static final class Longs {
        private final long[] row;

        Longs(int length) {
            row = new long[length >= 0 ? length : 0];
        }

        long at(int i) {
            return i >= 0 && i < row.length ? row[i] : 0;
        }

        void put(int i, long v) {
            if (i >= 0 && i < row.length) {
                row[i] = v;
            }
        }
    }

    /** The fault of a text: the first one that is told stays. */
    private static final class Fault {
        int number;
        int at;

        boolean isTold() {
            return number != 0;
        }

        void tell(int what, int where) {
            if (number == 0) {
                number = what;
                at = where;
            }
        }

        void clear() {
            number = 0;
            at = 0;
        }
    }

    /** The text as tokens, with an END behind the last one. */
    private static final class Tokens {
        final Ints kind = new Ints(MOST_TOKENS + 1);
        final Ints place = new Ints(MOST_TOKENS + 1);
        // A NUMBER's own value, or a NAME as a number to the base 37: twelve letters fit.
        final Longs code = new Longs(MOST_TOKENS + 1);
        private final Longs words = new Longs(ERROR + 1);
        private int count;

        Tokens() {
            int word = INT;
            long letters = 0;
            for (int i = 0; i < WORDS.length(); i++) {
                if (WORDS.charAt(i) == ' ') {
                    words.put(word, letters);
                    word++;
                    letters = 0;
                } else {
                    letters = letters * 37 + letterCode(WORDS.charAt(i));
                }
            }
        }

        void split(Ints text, int size, Fault fault) {
            count = 0;
            int at = 0;
            for (int turn = 0; turn < MOST_OCTETS && at < size && !fault.isTold(); turn++) {
                if (text.at(at) == ' ' || text.at(at) == '\n') {
                    at++;
                } else if (count == MOST_TOKENS) {
                    fault.tell(FAULT_TOKEN, at);
                } else {
                    at = readToken(text, size, at, fault);
                }
            }
            kind.put(count, END);
            place.put(count, size);
        }

        private int readToken(Ints text, int size, int at, Fault fault) {
            if (letterCode(text.at(at)) == 0) {
                return readSign(text, size, at, fault);
            }
            return isDigit(text.at(at)) ? readNumber(text, size, at, fault) : readName(text, size, at, fault);
        }

        private int readName(Ints text, int size, int at, Fault fault) {
            long letters = 0;
            int end = at;
            for (int i = at; i < size && letterCode(text.at(i)) != 0; i++) {
                letters = letters * 37 + letterCode(text.at(i));
                end = i + 1;
            }
            if (end - at > MOST_LETTERS) {
                fault.tell(FAULT_TOKEN, at);
                return end;
            }
            add(wordOrName(letters), at, letters);
            return end;
        }

        private int readNumber(Ints text, int size, int at, Fault fault) {
            long number = 0;
            int end = at;
            for (int i = at; i < size && isDigit(text.at(i)); i++) {
                // Held at a bound that is too great already, so that long rows of digits don't wrap.
                number = Math.min(number * 10 + text.at(i) - '0', 1L << 32);
                end = i + 1;
            }
            if (number > GREATEST_NUMBER) {
                fault.tell(FAULT_TOKEN, at);
                return end;
            }
            add(NUMBER, at, number);
            return end;
        }

        private int readSign(Ints text, int size, int at, Fault fault) {
            int octet = text.at(at);
            if (octet == '-' && at + 1 < size && text.at(at + 1) == '>') {
                add(ARROW, at, 0);
                return at + 2;
            }
            int sign = signKind(octet);
            if (sign == END) {
                fault.tell(FAULT_TOKEN, at);
                return at;
            }
            add(sign, at, 0);
            return at + 1;
        }

        private void add(int what, int where, long letters) {
            kind.put(count, what);
            place.put(count, where);
            code.put(count, letters);
            count++;
        }

        private int wordOrName(long letters) {
            for (int word = INT; word <= ERROR; word++) {
                if (words.at(word) == letters) {
                    return word;
                }
            }
            return NAME;
        }

        private static boolean isDigit(int octet) {
            return octet >= '0' && octet <= '9';
        }

        private static int letterCode(int octet) {
            if (octet >= 'a' && octet <= 'z') {
                return octet - 'a' + 1;
            }
            return isDigit(octet) ? octet - '0' + 27 : 0;
        }

        private static int signKind(int octet) {
            switch (octet) {
                case '(':
                    return OPEN;
                case ')':
                    return CLOSE;
                case ':':
                    return COLON;
                case '=':
                    return EQUALS;
                case ';':
                    return SEMICOLON;
                case '|':
                    return BAR;
                case '+':
                    return PLUS;
                case '-':
                    return MINUS;
                case '*':
                    return TIMES;
                case '/':
                    return OVER;
                case '<':
                    return LESS;
                default:
                    return END;
            }
        }
    }

    /**
     * The expressions as nodes 1 .. size; 0 is no node. A node stands behind all its parts, so each
     * function's nodes are a stretch of the rows that can be gone through from its parts upwards.
     */
    private static final class Tree {
        final Ints kind = new Ints(MOST_TOKENS + 1);
        final Ints token = new Ints(MOST_TOKENS + 1);
        final Ints first = new Ints(MOST_TOKENS + 1);
        final Ints next = new Ints(MOST_TOKENS + 1);
        final Ints parent = new Ints(MOST_TOKENS + 1);
        // The function of a CALL; the slot of a LOCAL, of a let's name, of a case's first name.
        final Ints target = new Ints(MOST_TOKENS + 1);
        final Ints atoms = new Ints(MOST_TOKENS + 1);
        final Ints wanted = new Ints(MOST_TOKENS + 1);
        final Ints strict = new Ints(MOST_TOKENS + 1);
        int size;

        int add(int what, int where, int firstPart) {
            size++;
            kind.put(size, what);
            token.put(size, where);
            first.put(size, firstPart);
            next.put(size, 0);
            parent.put(size, 0);
            target.put(size, 0);
            atoms.put(size, 0);
            wanted.put(size, 0);
            strict.put(size, 0);
            adopt(size);
            return size;
        }

        int part(int node, int i) {
            int found = first.at(node);
            for (int turn = 0; turn < i && found != 0; turn++) {
                found = next.at(found);
            }
            return found;
        }

        /** The node behind this one, each before its parts, these from left to right. */
        int following(int node) {
            if (first.at(node) != 0) {
                return first.at(node);
            }
            int from = node;
            for (int turn = 0; turn < MOST_TOKENS && from != 0 && next.at(from) == 0; turn++) {
                from = parent.at(from);
            }
            return next.at(from);
        }

        /** The slot that a node gives a point or value to as a let's first part, or NONE. */
        int boundBy(int node) {
            int above = parent.at(node);
            return kind.at(above) == LET && first.at(above) == node ? target.at(above) : NONE;
        }

        private void adopt(int node) {
            int child = first.at(node);
            for (int turn = 0; turn < MOST_TOKENS && child != 0; turn++) {
                parent.put(child, node);
                child = next.at(child);
            }
        }
    }

    /** The functions and their locals: parameters, then lets and cases in the order of the text. */
    private static final class Functions {
        final Ints name = new Ints(MOST_FUNCTIONS);
        final Ints parameters = new Ints(MOST_FUNCTIONS);
        final Ints base = new Ints(MOST_FUNCTIONS);
        final Ints locals = new Ints(MOST_FUNCTIONS);
        final Ints firstNode = new Ints(MOST_FUNCTIONS);
        final Ints root = new Ints(MOST_FUNCTIONS);
        final Ints cases = new Ints(MOST_FUNCTIONS);
        private final Ints localName = new Ints(MOST_FUNCTIONS * MOST_LOCALS);
        private final Ints localType = new Ints(MOST_FUNCTIONS * MOST_LOCALS);
        private final Ints localStrict = new Ints(MOST_FUNCTIONS * MOST_LOCALS);
        int size;

        void open(int nameToken, int node) {
            name.put(size, nameToken);
            parameters.put(size, 0);
            base.put(size, INT_TYPE);
            locals.put(size, 0);
            firstNode.put(size, node);
            root.put(size, 0);
            cases.put(size, 1);
            size++;
        }

        int addLocal(int f, int nameToken, int type) {
            int slot = locals.at(f);
            localName.put(f * MOST_LOCALS + slot, nameToken);
            localStrict.put(f * MOST_LOCALS + slot, 0);
            locals.put(f, slot + 1);
            setType(f, slot, type);
            return slot;
        }

        void setType(int f, int slot, int type) {
            localType.put(f * MOST_LOCALS + slot, type);
        }

        void setStrict(int f, int slot) {
            localStrict.put(f * MOST_LOCALS + slot, 1);
        }

        int nameOf(int f, int slot) {
            return localName.at(f * MOST_LOCALS + slot);
        }

        int typeOf(int f, int slot) {
            return localType.at(f * MOST_LOCALS + slot);
        }

        int strictOf(int f, int slot) {
            return localStrict.at(f * MOST_LOCALS + slot);
        }

        boolean takesInts(int f, int count) {
            if (parameters.at(f) != count) {
                return false;
            }
            for (int i = 0; i < count; i++) {
                if (typeOf(f, i) != INT_TYPE) {
                    return false;
                }
            }
            return true;
        }
    }

    /** Reads tokens by the grammar. Behind a fault every token counts as the end, so all falls out. */
    private static final class Reader {
        private final Tokens tokens;
        private final Tree tree;
        private final Functions table;
        private final Fault fault;
        private final Ints scope = new Ints(MOST_LOCALS);
        private int visible;
        private int at;
        private int current;

        Reader(Tokens tokens, Tree tree, Functions table, Fault fault) {
            this.tokens = tokens;
            this.tree = tree;
            this.table = table;
            this.fault = fault;
        }

        void readProgram() {
            at = 0;
            tree.size = 0;
            table.size = 0;
            for (int f = 0; f <= MOST_FUNCTIONS && kind() != END; f++) {
                readFunction(f);
            }
        }

        private void readFunction(int f) {
            if (kind() != NAME) {
                tell(FAULT_GRAMMAR);
                return;
            }
            if (f == MOST_FUNCTIONS) {
                tell(FAULT_COUNT);
                return;
            }
            current = f;
            visible = 0;
            table.open(at, tree.size + 1);
            pass(NAME);
            for (int i = 0; i <= MOST_PARAMETERS && kind() == OPEN; i++) {
                readParameter(i);
            }
            pass(COLON);
            table.base.put(f, readBase());
            pass(EQUALS);
            table.root.put(f, readExpression(0));
            pass(SEMICOLON);
        }

        private void readParameter(int i) {
            pass(OPEN);
            if (i == MOST_PARAMETERS && kind() == NAME) {
                tell(FAULT_COUNT);
            }
            int slot = readLocal(INT_TYPE);
            pass(COLON);
            table.setType(current, slot, readType());
            pass(CLOSE);
            table.parameters.put(current, i + 1);
            show(slot);
        }

        private int readType() {
            int one = readBase();
            if (kind() != ARROW) {
                return one;
            }
            pass(ARROW);
            int two = readBase();
            if (kind() != ARROW) {
                return FIRST_OF_ONE + 2 * one + two;
            }
            pass(ARROW);
            return FIRST_OF_TWO + 4 * one + 2 * two + readBase();
        }

        private int readBase() {
            int what = kind();
            if (what == INT || what == LIST) {
                at++;
            } else {
                tell(FAULT_GRAMMAR);
            }
            return what == LIST ? LIST_TYPE : INT_TYPE;
        }

        private int readLocal(int type) {
            if (kind() == NAME && table.locals.at(current) == MOST_LOCALS) {
                tell(FAULT_COUNT);
            }
            int nameToken = at;
            pass(NAME);
            return fault.isTold() ? 0 : table.addLocal(current, nameToken, type);
        }

        private int readExpression(int around) {
            if (around > MOST_AROUND) {
                tell(FAULT_NESTING);
                return 0;
            }
            switch (kind()) {
                case LET:
                    return readLet(around);
                case IF:
                    return readIf(around);
                case CASE:
                    return readCase(around);
                default:
                    return readComparison(around);
            }
        }

        private int readLet(int around) {
            int word = at;
            pass(LET);
            int slot = readLocal(INT_TYPE);
            pass(COLON);
            table.setType(current, slot, readBase());
            pass(EQUALS);
            int one = readExpression(around + 1);
            pass(IN);
            show(slot);
            int two = readExpression(around + 1);
            hide(1);
            return addNode(LET, word, slot, one, two, 0);
        }

        private int readIf(int around) {
            int word = at;
            pass(IF);
            int one = readExpression(around + 1);
            pass(THEN);
            int two = readExpression(around + 1);
            pass(ELSE);
            int three = readExpression(around + 1);
            return addNode(IF, word, 0, one, two, three);
        }

        private int readCase(int around) {
            int word = at;
            pass(CASE);
            int one = readExpression(around + 1);
            pass(OF);
            pass(EMPTY);
            pass(ARROW);
            int two = readExpression(around + 1);
            pass(BAR);
            int slot = readLocal(INT_TYPE);
            pass(COLON);
            int rest = readLocal(LIST_TYPE);
            pass(ARROW);
            show(slot);
            show(rest);
            int three = readExpression(around + 1);
            hide(2);
            return addNode(CASE, word, slot, one, two, three);
        }

        private int readComparison(int around) {
            int left = readSum(around);
            if (kind() != EQUALS && kind() != LESS) {
                return left;
            }
            int sign = at;
            int what = kind();
            pass(what);
            return addNode(what, sign, 0, left, readSum(around), 0);
        }

        private int readSum(int around) {
            int left = readTerm(around);
            for (int i = 0; i <= MOST_SIGNS && (kind() == PLUS || kind() == MINUS); i++) {
                int sign = at;
                int what = passSign(i);
                left = addNode(what, sign, 0, left, readTerm(around), 0);
            }
            return left;
        }

        private int readTerm(int around) {
            int left = readCall(around);
            for (int i = 0; i <= MOST_SIGNS && (kind() == TIMES || kind() == OVER); i++) {
                int sign = at;
                int what = passSign(i);
                left = addNode(what, sign, 0, left, readCall(around), 0);
            }
            return left;
        }

        private int readCall(int around) {
            int start = at;
            if (kind() == CONS) {
                pass(CONS);
                int one = readAtom(around);
                return addNode(CONS, start, 0, one, readAtom(around), 0);
            }
            if (kind() != NAME) {
                return readAtom(around);
            }
            pass(NAME);
            int firstAtom = 0;
            int last = 0;
            int count = 0;
            for (int i = 0; i < MOST_TOKENS && beginsAtom(kind()); i++) {
                int atom = readAtom(around);
                if (count == 0) {
                    firstAtom = atom;
                } else {
                    tree.next.put(last, atom);
                }
                last = atom;
                count++;
            }
            return addName(start, firstAtom, count);
        }

        private int readAtom(int around) {
            int start = at;
            int what = kind();
            switch (what) {
                case OPEN:
                    pass(OPEN);
                    int inside = readExpression(around + 1);
                    pass(CLOSE);
                    return inside;
                case NAME:
                    pass(NAME);
                    return addName(start, 0, 0);
                case NUMBER:
                case NIL:
                case ERROR:
                    pass(what);
                    return addNode(what, start, 0, 0, 0, 0);
                default:
                    tell(FAULT_GRAMMAR);
                    return 0;
            }
        }

        private static boolean beginsAtom(int what) {
            return what == OPEN || what == NAME || what == NUMBER || what == NIL || what == ERROR;
        }

        private int addName(int nameToken, int firstAtom, int count) {
            if (fault.isTold()) {
                return 0;
            }
            int slot = findLocal(nameToken);
            int node = tree.add(slot == NONE ? CALL : LOCAL, nameToken, firstAtom);
            tree.target.put(node, slot);
            tree.atoms.put(node, count);
            return node;
        }

        private int addNode(int what, int where, int target, int one, int two, int three) {
            if (fault.isTold()) {
                return 0;
            }
            tree.next.put(one, two);
            tree.next.put(two, three);
            int node = tree.add(what, where, one);
            tree.target.put(node, target);
            return node;
        }

        private int findLocal(int nameToken) {
            for (int i = visible - 1; i >= 0; i--) {
                int slot = scope.at(i);
                if (tokens.code.at(table.nameOf(current, slot)) == tokens.code.at(nameToken)) {
                    return slot;
                }
            }
            return NONE;
        }

        private void show(int slot) {
            scope.put(visible, slot);
            visible++;
        }

        private void hide(int count) {
            visible -= count;
        }

        private int kind() {
            return fault.isTold() ? END : tokens.kind.at(at);
        }

        private int passSign(int before) {
            int what = kind();
            if (before == MOST_SIGNS) {
                tell(FAULT_NESTING);
            }
            pass(what);
            return what;
        }

        private void pass(int what) {
            if (kind() != what) {
                tell(FAULT_GRAMMAR);
            } else if (what != END) {
                at++;
            }
        }

        private void tell(int what) {
            fault.tell(what, tokens.place.at(at));
        }
    }

    /** Looks for names that come twice, unknown names, wrong types and too many cases. */
    private static final class Typing {
        private final Tokens tokens;
        private final Tree tree;
        private final Functions table;
        private final Fault fault;

        Typing(Tokens tokens, Tree tree, Functions table, Fault fault) {
            this.tokens = tokens;
            this.tree = tree;
            this.table = table;
            this.fault = fault;
        }

        void check() {
            if (fault.isTold()) {
                return;
            }
            for (int f = 0; f < table.size; f++) {
                checkNames(f);
            }
            for (int f = 0; f < table.size; f++) {
                checkBody(f);
            }
            for (int f = 0; f < table.size; f++) {
                countCases(f);
            }
        }

        private void checkNames(int f) {
            for (int g = 0; g < f; g++) {
                if (isSameName(table.name.at(g), table.name.at(f))) {
                    tell(FAULT_TWICE, table.name.at(f));
                }
            }
            for (int i = 0; i < table.parameters.at(f); i++) {
                for (int k = 0; k < i; k++) {
                    if (isSameName(table.nameOf(f, k), table.nameOf(f, i))) {
                        tell(FAULT_TWICE, table.nameOf(f, i));
                    }
                }
            }
        }

        private void checkBody(int f) {
            int node = table.root.at(f);
            tree.wanted.put(node, table.base.at(f));
            for (int turn = 0; turn < MOST_TOKENS && node != 0 && !fault.isTold(); turn++) {
                checkNode(f, node);
                node = tree.following(node);
            }
        }

        private void checkNode(int f, int node) {
            int wanted = tree.wanted.at(node);
            switch (tree.kind.at(node)) {
                case LOCAL:
                    checkLocal(f, node);
                    break;
                case CALL:
                    checkCall(node);
                    break;
                case LET:
                    require(node, isBase(wanted));
                    wantParts(node, table.typeOf(f, tree.target.at(node)), wanted, wanted);
                    break;
                case IF:
                    require(node, isBase(wanted));
                    wantParts(node, INT_TYPE, wanted, wanted);
                    break;
                case CASE:
                    require(node, isBase(wanted));
                    wantParts(node, LIST_TYPE, wanted, wanted);
                    break;
                case ERROR:
                    require(node, isBase(wanted));
                    break;
                case NIL:
                case CONS:
                    require(node, wanted == LIST_TYPE);
                    wantParts(node, INT_TYPE, LIST_TYPE, LIST_TYPE);
                    break;
                default:
                    require(node, wanted == INT_TYPE);
                    wantParts(node, INT_TYPE, INT_TYPE, INT_TYPE);
                    break;
            }
        }

        private void checkLocal(int f, int node) {
            int type = table.typeOf(f, tree.target.at(node));
            int atoms = tree.atoms.at(node);
            require(node, atoms <= takenBy(type) && leftOf(type, atoms) == tree.wanted.at(node));
            int atom = tree.first.at(node);
            for (int i = 0; i < atoms && !fault.isTold(); i++) {
                tree.wanted.put(atom, partOf(type, i));
                atom = tree.next.at(atom);
            }
        }

        private void checkCall(int node) {
            int g = findFunction(tree.token.at(node));
            if (g == NONE) {
                tell(FAULT_UNKNOWN, tree.token.at(node));
                return;
            }
            int atoms = tree.atoms.at(node);
            tree.target.put(node, g);
            require(node, atoms <= table.parameters.at(g) && leftOfFunction(g, atoms) == tree.wanted.at(node));
            int atom = tree.first.at(node);
            for (int i = 0; i < atoms && !fault.isTold(); i++) {
                tree.wanted.put(atom, table.typeOf(g, i));
                atom = tree.next.at(atom);
            }
        }

        /** The type that is left of a function behind its first atoms; NONE if no wanted one is like it. */
        private int leftOfFunction(int g, int atoms) {
            int base = table.base.at(g);
            int left = table.parameters.at(g) - atoms;
            int one = table.typeOf(g, atoms);
            int two = table.typeOf(g, atoms + 1);
            if (left == 0) {
                return base;
            }
            if (left == 1 && isBase(one)) {
                return FIRST_OF_ONE + 2 * one + base;
            }
            if (left == 2 && isBase(one) && isBase(two)) {
                return FIRST_OF_TWO + 4 * one + 2 * two + base;
            }
            return NONE;
        }

        private void countCases(int f) {
            int count = 1;
            for (int i = 0; i < table.parameters.at(f); i++) {
                count *= pointsOf(table.typeOf(f, i));
            }
            if (count > MOST_CASES) {
                tell(FAULT_CASES, table.name.at(f));
            }
            table.cases.put(f, count);
        }

        private int findFunction(int nameToken) {
            for (int f = 0; f < table.size; f++) {
                if (isSameName(table.name.at(f), nameToken)) {
                    return f;
                }
            }
            return NONE;
        }

        private boolean isSameName(int one, int two) {
            return tokens.code.at(one) == tokens.code.at(two);
        }

        private void wantParts(int node, int one, int two, int three) {
            tree.wanted.put(tree.part(node, 0), one);
            tree.wanted.put(tree.part(node, 1), two);
            tree.wanted.put(tree.part(node, 2), three);
        }

        private void require(int node, boolean holds) {
            if (!holds) {
                tell(FAULT_TYPE, tree.token.at(node));
            }
        }

        private void tell(int what, int token) {
            fault.tell(what, tokens.place.at(token));
        }

        static boolean isBase(int type) {
            return type == INT_TYPE || type == LIST_TYPE;
        }

        static int takenBy(int type) {
            if (type < FIRST_OF_ONE) {
                return 0;
            }
            return type < FIRST_OF_TWO ? 1 : 2;
        }

        /** How many points or shapes there are. */
        static int pointsOf(int type) {
            switch (takenBy(type)) {
                case 0:
                    return 2;
                case 1:
                    return 3;
                default:
                    return 6;
            }
        }

        private static int partOf(int type, int i) {
            if (takenBy(type) == 1) {
                return (type - FIRST_OF_ONE) >> 1;
            }
            return i == 0 ? (type - FIRST_OF_TWO) >> 2 : (type - FIRST_OF_TWO) >> 1 & 1;
        }

        private static int leftOf(int type, int atoms) {
            if (atoms == 0) {
                return type;
            }
            // The last base of a type is its lowest bit.
            return atoms == takenBy(type) ? type & 1 : FIRST_OF_ONE + (type - FIRST_OF_TWO & 3);
        }
    }

    /** The values of all cases, and by them which parameters and lets are strict. */
    private static final class Analysis {
        private final Tree tree;
        private final Functions table;
        // The round in which a case's value became 1; 0 while it is 0. Values never fall.
        private final Ints since = new Ints(MOST_FUNCTIONS * MOST_CASES);
        private final Ints lastChange = new Ints(MOST_FUNCTIONS);
        private final Ints points = new Ints(MOST_TOKENS + 1);
        private final Ints locals = new Ints(MOST_LOCALS);
        int round;

        Analysis(Tree tree, Functions table) {
            this.tree = tree;
            this.table = table;
        }

        void analyse(Fault fault) {
            if (fault.isTold()) {
                return;
            }
            clear();
            boolean changed = true;
            for (int turn = 0; turn <= MOST_FUNCTIONS * MOST_CASES && changed; turn++) {
                round++;
                changed = false;
                for (int f = 0; f < table.size; f++) {
                    if (mayChange(f) && raiseCases(f)) {
                        lastChange.put(f, round);
                        changed = true;
                    }
                }
            }
            for (int f = 0; f < table.size; f++) {
                judgeParameters(f);
                judgeLets(f);
            }
        }

        /** A value as it was before this round, or, behind the last round, as it is. */
        int pointOfCase(int f, int number) {
            int changed = since.at(f * MOST_CASES + number);
            return changed != 0 && changed < round ? 1 : 0;
        }

        int countLets(int f, boolean strictAlone) {
            int count = 0;
            for (int node = table.firstNode.at(f); node <= table.root.at(f); node++) {
                if (tree.kind.at(node) == LET && (!strictAlone || tree.strict.at(node) == 1)) {
                    count++;
                }
            }
            return count;
        }

        private void clear() {
            round = 0;
            for (int f = 0; f < table.size; f++) {
                lastChange.put(f, 0);
                for (int number = 0; number < table.cases.at(f); number++) {
                    since.put(f * MOST_CASES + number, 0);
                }
            }
        }

        /** Only what a function names can change it: one that saw no change keeps its values. */
        private boolean mayChange(int f) {
            if (round == 1) {
                return true;
            }
            for (int node = table.firstNode.at(f); node <= table.root.at(f); node++) {
                if (tree.kind.at(node) == CALL && lastChange.at(tree.target.at(node)) >= round - 1) {
                    return true;
                }
            }
            return false;
        }

        private boolean raiseCases(int f) {
            boolean changed = false;
            for (int number = 0; number < table.cases.at(f); number++) {
                int at = f * MOST_CASES + number;
                if (since.at(at) == 0) {
                    bindCase(f, number);
                    if (pointBetween(f, table.firstNode.at(f), table.root.at(f)) == 1) {
                        since.put(at, round);
                        changed = true;
                    }
                }
            }
            return changed;
        }

        private void bindCase(int f, int number) {
            bindGreatest(f);
            int left = number;
            for (int i = table.parameters.at(f) - 1; i >= 0; i--) {
                int count = Math.max(1, Typing.pointsOf(table.typeOf(f, i)));
                locals.put(i, left % count);
                left /= count;
            }
        }

        private void bindGreatest(int f) {
            for (int i = 0; i < table.locals.at(f); i++) {
                locals.put(i, Typing.pointsOf(table.typeOf(f, i)) - 1);
            }
        }

        /** The point of the last of these nodes, all of whose parts are among them. */
        private int pointBetween(int f, int from, int to) {
            for (int node = from; node <= to; node++) {
                points.put(node, pointOf(f, node));
                int slot = tree.boundBy(node);
                if (slot != NONE) {
                    locals.put(slot, points.at(node));
                }
            }
            return points.at(to);
        }

        private int pointOf(int f, int node) {
            int one = tree.first.at(node);
            int two = tree.next.at(one);
            switch (tree.kind.at(node)) {
                case NUMBER:
                case NIL:
                case CONS:
                    return 1;
                case ERROR:
                    return 0;
                case LOCAL:
                    return pointOfLocal(f, node);
                case CALL:
                    return pointOfCall(node);
                case LET:
                    return points.at(two);
                case IF:
                case CASE:
                    return points.at(one) & (points.at(two) | points.at(tree.next.at(two)));
                default:
                    return points.at(one) & points.at(two);
            }
        }

        private int pointOfLocal(int f, int node) {
            int slot = tree.target.at(node);
            int shape = locals.at(slot);
            int one = tree.first.at(node);
            int taken = Typing.takenBy(table.typeOf(f, slot));
            if (tree.atoms.at(node) == 0) {
                return shape;
            }
            if (taken == 1) {
                return shapeOfOne(shape, points.at(one));
            }
            if (tree.atoms.at(node) == 2) {
                return shapeOfTwo(shape, points.at(one), points.at(tree.next.at(one)));
            }
            return shapeOfTwo(shape, points.at(one), 0) + shapeOfTwo(shape, points.at(one), 1);
        }

        private int pointOfCall(int node) {
            int g = tree.target.at(node);
            int atoms = tree.atoms.at(node);
            int number = 0;
            int atom = tree.first.at(node);
            for (int i = 0; i < atoms; i++) {
                number = number * Typing.pointsOf(table.typeOf(g, i)) + points.at(atom);
                atom = tree.next.at(atom);
            }
            switch (table.parameters.at(g) - atoms) {
                case 0:
                    return pointOfCase(g, number);
                case 1:
                    return pointOfCase(g, 2 * number) + pointOfCase(g, 2 * number + 1);
                default:
                    return findShape(pointOfCase(g, 4 * number), pointOfCase(g, 4 * number + 1),
                        pointOfCase(g, 4 * number + 2), pointOfCase(g, 4 * number + 3));
            }
        }

        /** The shape of what has these points for two that are to come: 0 0, 0 1, 1 0, 1 1. */
        private static int findShape(int none, int second, int first, int both) {
            if (none == 1) {
                return 5;
            }
            if (first == 1) {
                return second == 1 ? 4 : 2;
            }
            return second == 1 ? 3 : both;
        }

        private static int shapeOfOne(int shape, int point) {
            return shape == 1 ? point : shape >> 1;
        }

        private static int shapeOfTwo(int shape, int one, int two) {
            switch (shape) {
                case 0:
                    return 0;
                case 1:
                    return one & two;
                case 2:
                    return one;
                case 3:
                    return two;
                case 4:
                    return one | two;
                default:
                    return 1;
            }
        }

        private void judgeParameters(int f) {
            for (int i = 0; i < table.parameters.at(f); i++) {
                if (Typing.isBase(table.typeOf(f, i)) && pointOfCase(f, caseWithout(f, i)) == 0) {
                    table.setStrict(f, i);
                }
            }
        }

        /** The number of the case with 0 for one parameter and the greatest for the others. */
        private int caseWithout(int f, int without) {
            int number = 0;
            for (int i = 0; i < table.parameters.at(f); i++) {
                int count = Typing.pointsOf(table.typeOf(f, i));
                number = number * count + (i == without ? 0 : count - 1);
            }
            return number;
        }

        private void judgeLets(int f) {
            for (int node = table.firstNode.at(f); node <= table.root.at(f); node++) {
                if (tree.kind.at(node) == LET) {
                    int one = tree.first.at(node);
                    bindGreatest(f);
                    locals.put(tree.target.at(node), 0);
                    int point = pointBetween(f, one + 1, tree.next.at(one));
                    tree.strict.put(node, 1 - point);
                }
            }
        }
    }

    /** What a run makes. What a local or a part holds is a tag and a number behind it. */
    private static final class Heap {
        static final int TAG_NUMBER = 1;
        static final int TAG_NIL = 2;
        static final int TAG_CELL = 3;
        static final int TAG_PUT_OFF = 4;
        static final int TAG_FUNCTION = 5;
        static final int TAG_PARTIAL = 6;
        static final int WAITING = 0;
        static final int BUSY = 1;
        static final int DONE = 2;
        static final int MOST_MADE = 3000;
        static final int MOST_BEGUN = 30000;
        static final int MOST_GOT = 6000;

        final Longs firstPart = new Longs(MOST_MADE);
        final Longs secondPart = new Longs(MOST_MADE);
        final Ints node = new Ints(MOST_MADE);
        final Ints frame = new Ints(MOST_MADE);
        final Ints state = new Ints(MOST_MADE);
        final Longs kept = new Longs(MOST_MADE);
        final Longs locals = new Longs(MOST_BEGUN);
        // A function that got atoms: what it was before, and where its own atoms stand among all.
        final Longs got = new Longs(MOST_GOT);
        final Longs partialOf = new Longs(MOST_GOT);
        final Ints partialFrom = new Ints(MOST_GOT);
        final Ints partialSize = new Ints(MOST_GOT);
        int cells;
        int putOff;
        int done;
        int begun;
        int gotSize;
        int partials;

        static long hold(int tag, int number) {
            return (long) tag << 32 | number & 0xffffffffL;
        }

        static int tagOf(long held) {
            return (int) (held >>> 32);
        }

        static int numberOf(long held) {
            return (int) held;
        }

        void clear() {
            cells = 0;
            putOff = 0;
            done = 0;
            begun = 0;
            gotSize = 0;
            partials = 0;
        }

        /** One more that is put off; there must be room. */
        long addPutOff(int what, int where) {
            node.put(putOff, what);
            frame.put(putOff, where);
            state.put(putOff, WAITING);
            putOff++;
            return hold(TAG_PUT_OFF, putOff - 1);
        }

        /** One more function that gets atoms; there must be room. They are put in later. */
        int addPartial(long before, int count) {
            partialOf.put(partials, before);
            partialFrom.put(partials, gotSize);
            partialSize.put(partials, count);
            gotSize += count;
            partials++;
            return partials - 1;
        }

        void settle(int index, long answer) {
            kept.put(index, answer);
            state.put(index, DONE);
            done++;
        }
    }

    /** Works a function's expression, with a stack of its own for the workings within one another. */
    private static final class Machine {
        private static final int MOST_DEPTH = 250;
        private static final int MOST_GONE = 50;
        private static final int MOST_TICKS = 1000000;
        // A part's answer is the answer of the whole.
        private static final int LAST = 100;

        final Ints counts = new Ints(TOLD_SIZE);
        final Ints elements = new Ints(MOST_GONE);
        private final Tokens tokens;
        private final Tree tree;
        private final Functions table;
        private final Heap heap = new Heap();
        private final Ints nodes = new Ints(MOST_DEPTH);
        private final Ints frames = new Ints(MOST_DEPTH);
        private final Ints stages = new Ints(MOST_DEPTH);
        private final Longs waiting = new Longs(MOST_DEPTH * MOST_PARAMETERS);
        // The call that is being made has its parameters here.
        private final Longs called = new Longs(MOST_PARAMETERS);
        private int depth;
        private int limit;
        private boolean isQuick;
        private int end;
        private long answer;
        // Where a list is gone along: the cell, whether its first part is wanted, what is worked for it.
        private int cell;
        private boolean isInCell;
        private int forced;

        Machine(Tokens tokens, Tree tree, Functions table) {
            this.tokens = tokens;
            this.tree = tree;
            this.table = table;
        }

        int runFunction(int f, Ints arguments, int steps, boolean quick) {
            counts.clear();
            heap.clear();
            depth = 0;
            limit = steps;
            isQuick = quick;
            end = GOING;
            forced = NONE;
            isInCell = false;
            for (int i = 0; i < table.parameters.at(f); i++) {
                called.put(i, Heap.hold(Heap.TAG_NUMBER, arguments.at(i)));
            }
            enter(f);
            for (int tick = 0; tick < MOST_TICKS && end == GOING; tick++) {
                if (depth > 0) {
                    workOn(nodes.at(depth - 1), stages.at(depth - 1));
                } else if (table.base.at(f) == INT_TYPE) {
                    end = WELL;
                    counts.put(RESULT, Heap.numberOf(answer));
                } else {
                    goAlong();
                }
            }
            counts.put(PUT_OFF, heap.putOff);
            counts.put(NOT_DONE, heap.putOff - heap.done);
            counts.put(CELLS, heap.cells);
            return end;
        }

        /** Goes one part further along the list: the answer is its next cell, or a cell's first part. */
        private void goAlong() {
            int gone = counts.at(GONE_ALONG);
            if (forced != NONE) {
                heap.settle(forced, answer);
                forced = NONE;
            }
            if (!isInCell) {
                stepInto(answer);
                return;
            }
            isInCell = false;
            elements.put(gone, Heap.numberOf(answer));
            counts.put(GONE_ALONG, gone + 1);
            if (gone + 1 == MOST_GONE) {
                end = WELL;
            } else {
                force(heap.secondPart.at(cell));
            }
        }

        private void stepInto(long list) {
            if (Heap.tagOf(list) != Heap.TAG_CELL) {
                counts.put(NIL_BEHIND, 1);
                end = WELL;
                return;
            }
            isInCell = true;
            cell = Heap.numberOf(list);
            force(heap.firstPart.at(cell));
        }

        /** The answer is what a cell's part holds, or will be it when what was put off is worked. */
        private void force(long held) {
            int index = Heap.numberOf(held);
            if (Heap.tagOf(held) != Heap.TAG_PUT_OFF) {
                answer = held;
            } else if (heap.state.at(index) == Heap.DONE) {
                answer = heap.kept.at(index);
            } else {
                forced = index;
                beginPutOff(index);
            }
        }

        private void begin(int node, int frame) {
            if (depth == MOST_DEPTH) {
                end = DEEP;
            } else if (counts.at(STEPS) == limit) {
                end = SPENT;
            } else {
                nodes.put(depth, node);
                frames.put(depth, frame);
                stages.put(depth, 0);
                depth++;
                counts.put(STEPS, counts.at(STEPS) + 1);
                counts.put(DEEPEST, Math.max(depth, counts.at(DEEPEST)));
            }
        }

        /** Works a part of the uppermost working, which goes on at that stage behind it. */
        private void beginPart(int part, int stage) {
            stages.put(depth - 1, stage);
            begin(part, frame());
        }

        private void beginPutOff(int index) {
            heap.state.put(index, Heap.BUSY);
            begin(heap.node.at(index), heap.frame.at(index));
        }

        private void finish(long held) {
            answer = held;
            depth--;
        }

        private int frame() {
            return frames.at(depth - 1);
        }

        private void workOn(int node, int stage) {
            if (stage == LAST) {
                finish(answer);
                return;
            }
            switch (tree.kind.at(node)) {
                case NUMBER:
                case NIL:
                    finish(literal(node));
                    break;
                case ERROR:
                    end = DIVERGES;
                    break;
                case LOCAL:
                    if (tree.atoms.at(node) > 0) {
                        callHeld(node);
                    } else {
                        workLocal(node, stage);
                    }
                    break;
                case CALL:
                    workCall(node, stage);
                    break;
                case LET:
                    workLet(node, stage);
                    break;
                case IF:
                    workIf(node, stage);
                    break;
                case CASE:
                    workCase(node, stage);
                    break;
                case CONS:
                    workCons(node);
                    break;
                default:
                    workSign(node, stage);
                    break;
            }
        }

        private long literal(int node) {
            if (tree.kind.at(node) == NIL) {
                return Heap.hold(Heap.TAG_NIL, 0);
            }
            return Heap.hold(Heap.TAG_NUMBER, (int) tokens.code.at(tree.token.at(node)));
        }

        private void workLocal(int node, int stage) {
            long held = heap.locals.at(frame() + tree.target.at(node));
            int index = Heap.numberOf(held);
            if (stage == 1) {
                heap.settle(index, answer);
                finish(answer);
            } else if (Heap.tagOf(held) != Heap.TAG_PUT_OFF) {
                finish(held);
            } else if (heap.state.at(index) == Heap.DONE) {
                finish(heap.kept.at(index));
            } else if (heap.state.at(index) == Heap.BUSY) {
                end = DIVERGES;
            } else {
                stages.put(depth - 1, 1);
                beginPutOff(index);
            }
        }

        private void workIf(int node, int stage) {
            if (stage == 0) {
                beginPart(tree.part(node, 0), 1);
            } else {
                beginPart(tree.part(node, Heap.numberOf(answer) != 0 ? 1 : 2), LAST);
            }
        }

        private void workCase(int node, int stage) {
            if (stage == 0) {
                beginPart(tree.part(node, 0), 1);
            } else if (Heap.tagOf(answer) != Heap.TAG_CELL) {
                beginPart(tree.part(node, 1), LAST);
            } else {
                int slot = frame() + tree.target.at(node);
                heap.locals.put(slot, heap.firstPart.at(Heap.numberOf(answer)));
                heap.locals.put(slot + 1, heap.secondPart.at(Heap.numberOf(answer)));
                beginPart(tree.part(node, 2), LAST);
            }
        }

        private void workCons(int node) {
            if (heap.cells == Heap.MOST_MADE) {
                end = FULL;
                return;
            }
            int cell = heap.cells;
            heap.cells++;
            heap.firstPart.put(cell, putOff(tree.part(node, 0), 0));
            heap.secondPart.put(cell, putOff(tree.part(node, 1), 0));
            finish(Heap.hold(Heap.TAG_CELL, cell));
        }

        private void workLet(int node, int stage) {
            int slot = frame() + tree.target.at(node);
            if (stage == 0 && isQuick && tree.strict.at(node) == 1) {
                counts.add(WORKED_STRICT, 1);
                beginPart(tree.part(node, 0), 1);
                return;
            }
            heap.locals.put(slot, stage == 0 ? putOff(tree.part(node, 0), 0) : answer);
            if (end == GOING) {
                beginPart(tree.part(node, 1), LAST);
            }
        }

        private void workSign(int node, int stage) {
            int kept = (depth - 1) * MOST_PARAMETERS;
            if (stage == 0) {
                beginPart(tree.part(node, 0), 1);
            } else if (stage == 1) {
                waiting.put(kept, answer);
                beginPart(tree.part(node, 1), 2);
            } else {
                compute(tree.kind.at(node), Heap.numberOf(waiting.at(kept)), Heap.numberOf(answer));
            }
        }

        private void compute(int sign, int left, int right) {
            if (sign == OVER && right == 0) {
                end = DIVERGES;
                return;
            }
            finish(Heap.hold(Heap.TAG_NUMBER, join(sign, left, right)));
        }

        private static int join(int sign, int left, int right) {
            switch (sign) {
                case PLUS:
                    return left + right;
                case MINUS:
                    return left - right;
                case TIMES:
                    return left * right;
                case OVER:
                    return right == 0 ? 0 : left / right;
                case EQUALS:
                    return left == right ? 1 : 0;
                default:
                    return left < right ? 1 : 0;
            }
        }

        /** Atom i is looked at in stage 2 * i; in stage 2 * i + 1 it was worked as a strict one. */
        private void workCall(int node, int stage) {
            int g = tree.target.at(node);
            int kept = (depth - 1) * MOST_PARAMETERS;
            int i = stage / 2;
            if (stage % 2 == 1) {
                waiting.put(kept + i, answer);
                stages.put(depth - 1, stage + 1);
            } else if (i == tree.atoms.at(node)) {
                for (int k = 0; k < i; k++) {
                    called.put(k, waiting.at(kept + k));
                }
                stages.put(depth - 1, LAST);
                enter(g);
            } else if (isQuick && table.strictOf(g, i) == 1) {
                counts.add(WORKED_STRICT, 1);
                beginPart(tree.part(node, i), stage + 1);
            } else {
                waiting.put(kept + i, putOff(tree.part(node, i), 0));
                stages.put(depth - 1, stage + 2);
            }
        }

        private void callHeld(int node) {
            long from = heap.locals.at(frame() + tree.target.at(node));
            int count = sizeGot(from);
            int atoms = tree.atoms.at(node);
            int behind = count;
            for (int turn = 0; turn < MOST_PARAMETERS && Heap.tagOf(from) == Heap.TAG_PARTIAL; turn++) {
                int partial = Heap.numberOf(from);
                behind -= heap.partialSize.at(partial);
                for (int i = 0; i < heap.partialSize.at(partial); i++) {
                    called.put(behind + i, heap.got.at(heap.partialFrom.at(partial) + i));
                }
                from = heap.partialOf.at(partial);
            }
            for (int i = 0; i < atoms && end == GOING; i++) {
                called.put(count + i, putOff(tree.part(node, i), 0));
            }
            if (end == GOING) {
                stages.put(depth - 1, LAST);
                enter(Heap.numberOf(from));
            }
        }

        private int sizeGot(long held) {
            int count = 0;
            long from = held;
            for (int turn = 0; turn < MOST_PARAMETERS && Heap.tagOf(from) == Heap.TAG_PARTIAL; turn++) {
                count += heap.partialSize.at(Heap.numberOf(from));
                from = heap.partialOf.at(Heap.numberOf(from));
            }
            return count;
        }

        private void enter(int f) {
            if (heap.begun + table.locals.at(f) > Heap.MOST_BEGUN) {
                end = FULL;
                return;
            }
            int frame = heap.begun;
            heap.begun += table.locals.at(f);
            counts.add(CALLS, 1);
            for (int i = 0; i < table.parameters.at(f); i++) {
                heap.locals.put(frame + i, called.at(i));
            }
            begin(table.root.at(f), frame);
        }

        /** What holds an expression of the uppermost working that is put off; 0 if there is no room. */
        private long putOff(int node, int within) {
            int kind = tree.kind.at(node);
            if (end != GOING || within > MOST_AROUND + 1) {
                return 0;
            }
            if (kind == NUMBER || kind == NIL) {
                return literal(node);
            }
            if (kind == LOCAL && tree.atoms.at(node) == 0) {
                return heap.locals.at(frame() + tree.target.at(node));
            }
            if (!Typing.isBase(tree.wanted.at(node))) {
                return putOffFunction(node, within);
            }
            if (heap.putOff == Heap.MOST_MADE) {
                end = FULL;
                return 0;
            }
            return heap.addPutOff(node, frame());
        }

        private long putOffFunction(int node, int within) {
            int atoms = tree.atoms.at(node);
            long before = tree.kind.at(node) == CALL
                ? Heap.hold(Heap.TAG_FUNCTION, tree.target.at(node))
                : heap.locals.at(frame() + tree.target.at(node));
            if (atoms == 0) {
                return before;
            }
            if (heap.gotSize + atoms > Heap.MOST_GOT) {
                end = FULL;
                return 0;
            }
            int from = heap.gotSize;
            int partial = heap.addPartial(before, atoms);
            for (int i = 0; i < atoms && end == GOING; i++) {
                heap.got.put(from + i, putOff(tree.part(node, i), within + 1));
            }
            return Heap.hold(Heap.TAG_PARTIAL, partial);
        }
    }
}
