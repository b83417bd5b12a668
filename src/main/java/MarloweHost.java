import java.util.Arrays;

/**
 * Financial contracts after Marlowe: a text is read, transactions with inputs and intervals of time
 * are applied to it, payments go to wallets, and an analyser looks for a way of going on that raises
 * a warning. The words in capitals in the comments are those of the document.
 */
public final class MarloweHost {
    public static final int CLEAN = 0, FOUND = 1, FUEL = 2, OUTSIDE = 3;

    private static final int MOST_FED = 8200, OCTETS_A_FEED = 20, MOST_OCTETS = 8192;
    private static final int PARTIES = 8, TOKENS = 4, CHOICES = 8, VARIABLES = 8;
    private static final int CELLS = PARTIES * TOKENS;
    private static final int MOST_NODES = 800, MOST_NESTED = 100, MOST_ACTIONS = 8, MOST_INPUTS = 16;
    private static final int LONGEST_WORD = 16, MOST_DIGITS = 17;
    /** A number and what parts it from the next one take two octets or more. */
    private static final int MOST_BOUNDS = MOST_OCTETS / 2;
    /** A transaction goes through at most MOST_NESTED contracts, MOST_INPUTS inputs and CELLS accounts. */
    private static final int MOST_EVENTS = MOST_NESTED + MOST_INPUTS + CELLS;
    private static final int MOST_STEPS = 5000, MOST_NUMBERS_TRIED = 16;
    /** Each STEP but the first one leads into a contract that is nested deeper. */
    private static final int MOST_LEVELS = MOST_NESTED + 4;
    /** Each STEP opens at most one level, and each level is left once. */
    private static final int MOST_TURNS = 4 * MOST_STEPS;
    private static final long LARGEST = 1L << 62, MOST_SET = 1L << 61;
    private static final int NONE = -1;

    /** The keys in the order of their kinds, each one filled up with blanks to KEY_WIDTH. */
    private static final String KEYS =
            "close   pay     to      into    if      when    let     assert  deposit choice  notify  balance neg     chosen  use     start   end     cond    true    false   and     or      not     made    ";
    private static final int KEY_WIDTH = 8, KEY_COUNT = 24;

    /** Kinds of tokens; a NODE has the kind of its first token. */
    private static final int CLOSE = 0, PAY = 1, TO = 2, INTO = 3, IF = 4, WHEN = 5, LET = 6, ASSERT = 7;
    private static final int DEPOSIT = 8, CHOICE = 9, NOTIFY = 10;
    private static final int BALANCE = 11, NEG = 12, CHOSEN = 13, USE = 14, START = 15, END = 16, COND = 17;
    private static final int TRUE = 18, FALSE = 19, AND = 20, OR = 21, NOT = 22, MADE = 23;
    private static final int OPEN = 24, SHUT = 25, OPEN_LIST = 26, SHUT_LIST = 27;
    private static final int PLUS = 28, MINUS = 29, TIMES = 30, OVER = 31;
    private static final int BELOW = 32, AT_MOST = 33, ABOVE = 34, AT_LEAST = 35, EQUAL = 36;
    private static final int NUMBER = 37, NAME = 38, FINISH = 39, ODD = 40;

    private static final int ERROR_INTERVAL = 1, ERROR_PAST = 2, ERROR_AMBIGUOUS = 3, ERROR_NO_MATCH = 4;
    private static final int ERROR_USELESS = 5, ERROR_LARGE = 6, ERROR_WALLET = 7;

    private static final int WARNING_DEPOSIT = 1, WARNING_PAY = 2, WARNING_PARTLY = 3;
    private static final int WARNING_USED = 4, WARNING_ASSERT = 5;

    private static final int STEP_ALONE = 0, STEP_DEPOSIT = 1, STEP_CHOICE = 2, STEP_NOTIFY = 3, STEP_TIME = 4;

    private final Scanner scanner = new Scanner();
    private final Tree tree = new Tree();
    private final Reader reader = new Reader(scanner, tree);
    private final Wallets wallets = new Wallets();
    private final Inputs inputs = new Inputs();
    private final Machine machine = new Machine(tree, wallets);
    private final Analyser analyser = new Analyser(tree);
    private final Situation present = new Situation();
    private final Situation trial = new Situation();
    private boolean contracted;

    public MarloweHost() {
    }

    public int feed(int a, int b, int c, int d, int e) throws IndexOutOfBoundsException {
        if (scanner.fed + OCTETS_A_FEED > MOST_FED) {
            throw new IndexOutOfBoundsException("more than 8,200 octets would be fed");
        }
        scanner.addFour(a);
        scanner.addFour(b);
        scanner.addFour(c);
        scanner.addFour(d);
        scanner.addFour(e);
        return scanner.fed;
    }

    public int end(int n) throws IndexOutOfBoundsException, IllegalArgumentException {
        if (n < 0 || n > MOST_OCTETS || n > scanner.fed) {
            throw new IndexOutOfBoundsException("there are not so many octets for a text");
        }
        // All that a wrong text ends is ended before it is read: the reader throws at the wrong token.
        scanner.fed = 0;
        inputs.size = 0;
        contracted = false;
        reader.begin(n);
        reader.readContract(1);
        reader.finish();
        contracted = true;
        present.begin();
        return tree.size;
    }

    public int wrong() {
        return reader.wrongAt;
    }

    public long wallet(int party, int token, long amount) throws IllegalArgumentException {
        if (!isParty(party) || !isToken(token) || amount < 0 || amount > MOST_SET) {
            throw new IllegalArgumentException("no such wallet, or an amount that is not 0..2 ** 61");
        }
        int cell = party * TOKENS + token;
        long before = wallets.has[cell];
        wallets.has[cell] = amount;
        return before;
    }

    public int deposit(int account, int party, int token, long amount)
            throws IllegalArgumentException, IndexOutOfBoundsException {
        if (!isParty(account) || !isParty(party) || !isToken(token)) {
            throw new IllegalArgumentException("no such party or token");
        }
        requireRoomForInput();
        return inputs.add(DEPOSIT, account, party, token, amount);
    }

    public int choose(int choice, long v) throws IllegalArgumentException, IndexOutOfBoundsException {
        if (choice < 0 || choice >= CHOICES) {
            throw new IllegalArgumentException("no such choice");
        }
        requireRoomForInput();
        return inputs.add(CHOICE, choice, NONE, NONE, v);
    }

    public int remind() throws IndexOutOfBoundsException {
        requireRoomForInput();
        return inputs.add(NOTIFY, NONE, NONE, NONE, 0);
    }

    public int apply(long low, long high) throws IllegalStateException {
        requireContract();
        trial.copyFrom(present);
        int error = machine.run(trial, inputs, low, high);
        if (error == 0) {
            present.copyFrom(trial);
        }
        inputs.size = 0;
        return error;
    }

    public int told(int what, int k) throws IllegalArgumentException, IndexOutOfBoundsException {
        if (what < 0 || what > 4) {
            throw new IllegalArgumentException("what is not 0..4");
        }
        Events events = machine.events;
        if (k < 0 || k >= (what <= 1 ? events.warnings : events.payments)) {
            throw new IndexOutOfBoundsException("there is no such warning or payment");
        }
        switch (what) {
            case 0:
                return events.warning[k];
            case 1:
                return events.raiser[k];
            case 2:
                return events.payer[k];
            case 3:
                return events.payee[k];
            default:
                return events.token[k];
        }
    }

    public long paid(int k) throws IndexOutOfBoundsException {
        if (k < 0 || k >= machine.events.payments) {
            throw new IndexOutOfBoundsException("there is no such payment");
        }
        return machine.events.amount[k];
    }

    public long state(int what, int a, int b) throws IllegalArgumentException, IllegalStateException {
        if (what < 0 || what > 4 || !isParty(a) || !isToken(b)) {
            throw new IllegalArgumentException("what is not 0..4, a not 0..7, or b not 0..3");
        }
        if (what == 1) {
            return wallets.has[a * TOKENS + b];
        }
        requireContract();
        switch (what) {
            case 0:
                return present.accounts[a * TOKENS + b];
            case 2:
                return present.chosen[a];
            case 3:
                return present.used[a];
            default:
                return present.time;
        }
    }

    public int analyse() throws IllegalStateException {
        requireContract();
        return analyser.look(present);
    }

    public long step(int k, int what) throws IllegalArgumentException, IndexOutOfBoundsException {
        if (what < 0 || what > 2) {
            throw new IllegalArgumentException("what is not 0..2");
        }
        if (k < 0 || k >= analyser.found) {
            throw new IndexOutOfBoundsException("there is no such step");
        }
        switch (what) {
            case 0:
                return analyser.stepKind[k];
            case 1:
                return analyser.stepNumber[k];
            default:
                return analyser.stepNode[k];
        }
    }

    public int count(int what) throws IllegalArgumentException {
        if (what < 0 || what > 10) {
            throw new IllegalArgumentException("what is not 0..10");
        }
        switch (what) {
            case 0:
                return contracted ? present.node : NONE;
            case 6:
                return inputs.size;
            case 7:
                return machine.events.warnings;
            case 8:
                return machine.events.payments;
            case 9:
                return analyser.looked;
            case 10:
                return analyser.found;
            default:
                return contracted ? countInText(what) : 0;
        }
    }

    private int countInText(int what) {
        switch (what) {
            case 1:
                return tree.size;
            case 2:
                return reader.parties.size;
            case 3:
                return reader.tokens.size;
            case 4:
                return reader.choices.size;
            default:
                return reader.variables.size;
        }
    }

    private void requireContract() {
        if (!contracted) {
            throw new IllegalStateException("there is no contract");
        }
    }

    private void requireRoomForInput() {
        if (inputs.size >= MOST_INPUTS) {
            throw new IndexOutOfBoundsException("there are 16 inputs");
        }
    }

    private static boolean isParty(int number) {
        return number >= 0 && number < PARTIES;
    }

    private static boolean isToken(int number) {
        return number >= 0 && number < TOKENS;
    }

    /** What was fed, and the tokens in it. */
    private static final class Scanner {
        final byte[] octets = new byte[MOST_FED];
        int fed;
        int kind;
        int start;
        int length;
        long number;
        private int limit;

        void addFour(int four) {
            for (int shift = 24; shift >= 0 && fed >= 0 && fed < MOST_FED; shift -= 8) {
                octets[fed] = (byte) (four >> shift);
                fed++;
            }
        }

        /** The first octet that no text may have, or NONE; one above 127 is below 0 as a byte. */
        int forbidden(int size) {
            for (int at = 0; at < size && at < MOST_FED; at++) {
                if (octets[at] != '\n' && (octets[at] < 32 || octets[at] > 126)) {
                    return at;
                }
            }
            return NONE;
        }

        void begin(int size) {
            limit = Math.min(size, MOST_OCTETS);
            start = 0;
            length = 0;
            advance();
        }

        void advance() {
            int at = start + length;
            while (at < limit && (octets[at] == ' ' || octets[at] == '\n')) {
                at++;
            }
            start = at;
            length = 0;
            if (at >= limit) {
                kind = FINISH;
            } else if (isLetter(octets[at])) {
                scanWord();
                kind = keyOrName();
            } else if (isDigit(at) || (octets[at] == '-' && isDigit(at + 1))) {
                scanNumber();
            } else {
                scanSign();
            }
        }

        private void scanWord() {
            int at = start;
            while (at < limit && at < start + LONGEST_WORD && (isLetter(octets[at]) || isDigit(at))) {
                at++;
            }
            length = at - start;
        }

        private int keyOrName() {
            if (length >= KEY_WIDTH) {
                return NAME;
            }
            for (int key = 0; key < KEY_COUNT; key++) {
                int from = key * KEY_WIDTH;
                int same = 0;
                while (same < length && KEYS.charAt(from + same) == octets[start + same]) {
                    same++;
                }
                if (same == length && KEYS.charAt(from + length) == ' ') {
                    return key;
                }
            }
            return NAME;
        }

        private void scanNumber() {
            boolean negative = octets[start] == '-';
            int first = negative ? start + 1 : start;
            int at = first;
            long size = 0;
            while (at < first + MOST_DIGITS && isDigit(at)) {
                size = size * 10 + (octets[at] - '0');
                at++;
            }
            length = at - start;
            kind = NUMBER;
            number = negative ? -size : size;
        }

        private void scanSign() {
            boolean equalSign = start + 1 < limit && octets[start + 1] == '=';
            kind = signOf(octets[start], equalSign);
            length = kind == AT_MOST || kind == AT_LEAST ? 2 : 1;
        }

        private static int signOf(byte octet, boolean equalSign) {
            switch (octet) {
                case '(':
                    return OPEN;
                case ')':
                    return SHUT;
                case '[':
                    return OPEN_LIST;
                case ']':
                    return SHUT_LIST;
                case '+':
                    return PLUS;
                case '-':
                    return MINUS;
                case '*':
                    return TIMES;
                case '/':
                    return OVER;
                case '<':
                    return equalSign ? AT_MOST : BELOW;
                case '>':
                    return equalSign ? AT_LEAST : ABOVE;
                case '=':
                    return EQUAL;
                default:
                    return ODD;
            }
        }

        private boolean isDigit(int at) {
            return at < limit && octets[at] >= '0' && octets[at] <= '9';
        }

        private static boolean isLetter(byte octet) {
            return (octet >= 'a' && octet <= 'z') || (octet >= 'A' && octet <= 'Z') || octet == '_';
        }
    }

    /** The names of one kind, numbered; a name is where it first stands in the text. */
    private static final class Names {
        private final byte[] octets;
        private final int[] starts;
        private final int[] lengths;
        private final int[] owners;
        int size;

        Names(byte[] octets, int most) {
            this.octets = octets;
            starts = new int[most];
            lengths = new int[most];
            owners = new int[most];
        }

        /** The number of a name (of a choice: with its owner), or NONE. */
        int find(int start, int length, int owner) {
            for (int i = 0; i < size; i++) {
                if (owners[i] == owner && lengths[i] == length && isSame(starts[i], start, length)) {
                    return i;
                }
            }
            return NONE;
        }

        boolean hasRoom() {
            return size >= 0 && size < starts.length;
        }

        /** The number of a new name; only called where there is room for one. */
        int add(int start, int length, int owner) {
            if (!hasRoom()) {
                return NONE;
            }
            starts[size] = start;
            lengths[size] = length;
            owners[size] = owner;
            size++;
            return size - 1;
        }

        private boolean isSame(int one, int other, int length) {
            for (int i = 0; i < length && one + i < octets.length && other + i < octets.length; i++) {
                if (octets[one + i] != octets[other + i]) {
                    return false;
                }
            }
            return true;
        }
    }

    /**
     * The NODES of a contract. What the links and names of a NODE mean, by its kind:
     * pay: left V, right C, names P P T, into: to an ACCOUNT; if: left O, middle C, right C;
     * when: left the first A, right the last C, number N; let: left V, right C, name X;
     * assert: left O, right C; an A: left V or O, middle its C, right the next A;
     * deposit: names P P T; choice: name H, then from and behind which of the bounds;
     * balance: names P T; chosen, made: name H; use: name X; cond: left O, middle V, right V.
     */
    private static final class Tree {
        final int[] kinds = new int[MOST_NODES];
        final int[] left = new int[MOST_NODES];
        final int[] middle = new int[MOST_NODES];
        final int[] right = new int[MOST_NODES];
        final int[] first = new int[MOST_NODES];
        final int[] second = new int[MOST_NODES];
        final int[] third = new int[MOST_NODES];
        final int[] behind = new int[MOST_NODES];
        final boolean[] into = new boolean[MOST_NODES];
        final long[] numbers = new long[MOST_NODES];
        private final long[] bounds = new long[MOST_BOUNDS];
        int size;
        int boundCount;

        void clear() {
            size = 0;
            boundCount = 0;
        }

        /** A new NODE; only called where there is room for one. */
        int add(int kind, long number) {
            int node = Math.min(size, MOST_NODES - 1);
            kinds[node] = kind;
            left[node] = NONE;
            middle[node] = NONE;
            right[node] = NONE;
            first[node] = NONE;
            second[node] = NONE;
            third[node] = NONE;
            behind[node] = node + 1;
            into[node] = false;
            numbers[node] = number;
            size = node + 1;
            return node;
        }

        boolean addBounds(long low, long high) {
            if (boundCount + 2 > MOST_BOUNDS) {
                return false;
            }
            bounds[boundCount] = low;
            bounds[boundCount + 1] = high;
            boundCount += 2;
            return true;
        }

        boolean has(int node) {
            return node >= 0 && node < size;
        }

        /** The kind of a NODE; NONE where there is no such NODE. */
        int kindOf(int node) {
            return has(node) ? kinds[node] : NONE;
        }

        boolean isWithin(int choice, long number) {
            for (int i = second[choice]; i >= 0 && i + 1 < third[choice]; i += 2) {
                if (number >= bounds[i] && number <= bounds[i + 1]) {
                    return true;
                }
            }
            return false;
        }

        /** How many numbers a choice's bounds have; beyond MOST_NUMBERS_TRIED just one more than that. */
        int numbersTried(int choice) {
            long sum = 0;
            for (int i = second[choice]; i >= 0 && i + 1 < third[choice] && sum <= MOST_NUMBERS_TRIED; i += 2) {
                sum += bounds[i + 1] - bounds[i] + 1;
            }
            return sum <= MOST_NUMBERS_TRIED ? (int) sum : MOST_NUMBERS_TRIED + 1;
        }

        long numberTried(int choice, int which) {
            long rest = which;
            for (int i = second[choice]; i >= 0 && i + 1 < third[choice]; i += 2) {
                long these = bounds[i + 1] - bounds[i] + 1;
                if (rest < these) {
                    return bounds[i] + rest;
                }
                rest -= these;
            }
            return 0;
        }

        /** Whether what is left from this NODE on is more than the analyser looks at. */
        boolean isOutside(int node) {
            // NODES are numbered as they begin, so a NODE and all in it are one stretch.
            int stop = has(node) ? behind[node] : 0;
            for (int i = node; i >= 0 && i < stop; i++) {
                int kind = kinds[i];
                if (kind == START || kind == END) {
                    return true;
                }
                if (kind == CHOICE && numbersTried(i) > MOST_NUMBERS_TRIED) {
                    return true;
                }
            }
            return false;
        }
    }

    /** Reads a text into a tree; at the first token that can not stand it throws. */
    private static final class Reader {
        private final Scanner scanner;
        private final Tree tree;
        final Names parties;
        final Names tokens;
        final Names choices;
        final Names variables;
        int wrongAt = NONE;

        Reader(Scanner scanner, Tree tree) {
            this.scanner = scanner;
            this.tree = tree;
            parties = new Names(scanner.octets, PARTIES);
            tokens = new Names(scanner.octets, TOKENS);
            choices = new Names(scanner.octets, CHOICES);
            variables = new Names(scanner.octets, VARIABLES);
        }

        /** Forgets the text before, and stands at the first token of the new one. */
        void begin(int size) {
            wrongAt = NONE;
            tree.clear();
            parties.size = 0;
            tokens.size = 0;
            choices.size = 0;
            variables.size = 0;
            int forbidden = scanner.forbidden(size);
            requireAt(forbidden, forbidden == NONE);
            scanner.begin(size);
        }

        void finish() {
            require(scanner.kind == FINISH);
        }

        private void require(boolean right) {
            requireAt(scanner.start, right);
        }

        private void requireAt(int at, boolean right) {
            if (!right) {
                wrongAt = at;
                throw new IllegalArgumentException("the text is wrong");
            }
        }

        private void take(int kind) {
            require(scanner.kind == kind);
            scanner.advance();
        }

        private int beginNode() {
            require(tree.size < MOST_NODES);
            int node = tree.add(scanner.kind, scanner.kind == NUMBER ? scanner.number : 0);
            scanner.advance();
            return node;
        }

        int readContract(int nested) {
            require(nested <= MOST_NESTED);
            if (scanner.kind == OPEN) {
                scanner.advance();
                int inner = readContract(nested + 1);
                take(SHUT);
                return inner;
            }
            int kind = scanner.kind;
            require(kind == CLOSE || kind == PAY || kind == IF || kind == WHEN || kind == LET || kind == ASSERT);
            int node = beginNode();
            switch (kind) {
                case PAY:
                    readPayNames(node);
                    tree.left[node] = readValue(nested + 1);
                    break;
                case WHEN:
                    take(OPEN_LIST);
                    int latest = NONE;
                    for (int i = 0; i <= MOST_ACTIONS && scanner.kind != SHUT_LIST; i++) {
                        require(i < MOST_ACTIONS);
                        latest = readAction(node, latest, nested);
                    }
                    take(SHUT_LIST);
                    tree.numbers[node] = readNumber();
                    break;
                case LET:
                    tree.first[node] = readName(variables);
                    tree.left[node] = readValue(nested + 1);
                    break;
                case IF:
                    tree.left[node] = readTruth(nested + 1);
                    tree.middle[node] = readContract(nested + 1);
                    break;
                case ASSERT:
                    tree.left[node] = readTruth(nested + 1);
                    break;
                default:
                    break;
            }
            if (kind != CLOSE) {
                tree.right[node] = readContract(nested + 1);
            }
            tree.behind[node] = tree.size;
            return node;
        }

        private void readPayNames(int node) {
            tree.first[node] = readName(parties);
            require(scanner.kind == TO || scanner.kind == INTO);
            tree.into[node] = scanner.kind == INTO;
            scanner.advance();
            tree.second[node] = readName(parties);
            tree.third[node] = readName(tokens);
        }

        /** Reads an A with its C, and hangs it behind the latest one of its when. */
        private int readAction(int when, int latest, int nested) {
            int kind = scanner.kind;
            require(kind == DEPOSIT || kind == CHOICE || kind == NOTIFY);
            int node = beginNode();
            if (latest == NONE) {
                tree.left[when] = node;
            } else {
                tree.right[latest] = node;
            }
            if (kind == DEPOSIT) {
                tree.first[node] = readName(parties);
                tree.second[node] = readName(parties);
                tree.third[node] = readName(tokens);
                tree.left[node] = readValue(nested + 1);
            } else if (kind == CHOICE) {
                tree.first[node] = readChoiceName();
                readBounds(node);
            } else {
                tree.left[node] = readTruth(nested + 1);
            }
            tree.middle[node] = readContract(nested + 1);
            return node;
        }

        private void readBounds(int node) {
            take(OPEN_LIST);
            tree.second[node] = tree.boundCount;
            for (int i = 0; i < MOST_BOUNDS && (i == 0 || scanner.kind != SHUT_LIST); i++) {
                long low = readNumber();
                require(scanner.kind == NUMBER && scanner.number >= low);
                require(tree.addBounds(low, scanner.number));
                scanner.advance();
            }
            take(SHUT_LIST);
            tree.third[node] = tree.boundCount;
        }

        private int readValue(int nested) {
            require(nested <= MOST_NESTED);
            if (scanner.kind == OPEN) {
                scanner.advance();
                int inner = readValue(nested + 1);
                take(SHUT);
                return inner;
            }
            int kind = scanner.kind;
            boolean operator = kind >= PLUS && kind <= OVER;
            require(kind == NUMBER || operator || (kind >= BALANCE && kind <= COND));
            int node = beginNode();
            if (kind == BALANCE) {
                tree.first[node] = readName(parties);
                tree.second[node] = readName(tokens);
            } else if (kind == CHOSEN) {
                tree.first[node] = readChoiceName();
            } else if (kind == USE) {
                tree.first[node] = readName(variables);
            } else if (kind == NEG || operator) {
                tree.left[node] = readValue(nested + 1);
            } else if (kind == COND) {
                tree.left[node] = readTruth(nested + 1);
                tree.middle[node] = readValue(nested + 1);
            }
            if (operator || kind == COND) {
                tree.right[node] = readValue(nested + 1);
            }
            tree.behind[node] = tree.size;
            return node;
        }

        private int readTruth(int nested) {
            require(nested <= MOST_NESTED);
            if (scanner.kind == OPEN) {
                scanner.advance();
                int inner = readTruth(nested + 1);
                take(SHUT);
                return inner;
            }
            int kind = scanner.kind;
            boolean comparison = kind >= BELOW && kind <= EQUAL;
            require(comparison || (kind >= TRUE && kind <= MADE));
            int node = beginNode();
            if (comparison) {
                tree.left[node] = readValue(nested + 1);
                tree.right[node] = readValue(nested + 1);
            } else if (kind == AND || kind == OR) {
                tree.left[node] = readTruth(nested + 1);
                tree.right[node] = readTruth(nested + 1);
            } else if (kind == NOT) {
                tree.left[node] = readTruth(nested + 1);
            } else if (kind == MADE) {
                tree.first[node] = readChoiceName();
            }
            tree.behind[node] = tree.size;
            return node;
        }

        private long readNumber() {
            require(scanner.kind == NUMBER);
            long number = scanner.number;
            scanner.advance();
            return number;
        }

        private int readName(Names names) {
            require(scanner.kind == NAME);
            int number = names.find(scanner.start, scanner.length, NONE);
            if (number == NONE) {
                require(names.hasRoom());
                number = names.add(scanner.start, scanner.length, NONE);
            }
            scanner.advance();
            return number;
        }

        private int readChoiceName() {
            require(scanner.kind == NAME);
            int start = scanner.start;
            int length = scanner.length;
            scanner.advance();
            require(scanner.kind == NAME);
            // Choices are counted by themselves, and a choice's name stands before its party: a choice
            // too many is told at its name, be the party one too many as well.
            int number = choices.find(start, length, parties.find(scanner.start, scanner.length, NONE));
            requireAt(start, number != NONE || choices.hasRoom());
            int party = readName(parties);
            return number != NONE ? number : choices.add(start, length, party);
        }
    }

    /** A STATE; whether something is CHOSEN or USED is a bit by its number. */
    private static final class Situation {
        int node;
        long time;
        final long[] accounts = new long[CELLS];
        final long[] chosen = new long[CHOICES];
        final long[] used = new long[VARIABLES];
        int chosenBits;
        int usedBits;

        void begin() {
            node = 0;
            time = 0;
            Arrays.fill(accounts, 0);
            Arrays.fill(chosen, 0);
            Arrays.fill(used, 0);
            chosenBits = 0;
            usedBits = 0;
        }

        void copyFrom(Situation other) {
            node = other.node;
            time = other.time;
            System.arraycopy(other.accounts, 0, accounts, 0, CELLS);
            System.arraycopy(other.chosen, 0, chosen, 0, CHOICES);
            System.arraycopy(other.used, 0, used, 0, VARIABLES);
            chosenBits = other.chosenBits;
            usedBits = other.usedBits;
        }

        /** The first account that has something, or NONE. */
        int firstFilled() {
            for (int cell = 0; cell < CELLS; cell++) {
                if (accounts[cell] != 0) {
                    return cell;
                }
            }
            return NONE;
        }

        long balance(int party, int token) {
            int cell = party * TOKENS + token;
            return cell >= 0 && cell < CELLS ? accounts[cell] : 0;
        }

        /** False: the ACCOUNT is LARGE now. Two amounts in bounds that wrap around give one below 0. */
        boolean addTo(int party, int token, long amount) {
            int cell = party * TOKENS + token;
            if (cell < 0 || cell >= CELLS) {
                return true;
            }
            accounts[cell] += amount;
            return accounts[cell] >= 0 && accounts[cell] <= LARGEST;
        }

        long chosenOf(int choice) {
            return choice >= 0 && choice < CHOICES ? chosen[choice] : 0;
        }

        boolean isMade(int choice) {
            return (chosenBits >> choice & 1) != 0;
        }

        void setChosen(int choice, long number) {
            if (choice >= 0 && choice < CHOICES) {
                chosen[choice] = number;
                chosenBits |= 1 << choice;
            }
        }

        long usedOf(int variable) {
            return variable >= 0 && variable < VARIABLES ? used[variable] : 0;
        }

        boolean isUsed(int variable) {
            return (usedBits >> variable & 1) != 0;
        }

        void setUsed(int variable, long value) {
            if (variable >= 0 && variable < VARIABLES) {
                used[variable] = value;
                usedBits |= 1 << variable;
            }
        }
    }

    /** What is put into the next transaction; the names are those of the A that fits. */
    private static final class Inputs {
        final int[] kinds = new int[MOST_INPUTS];
        final int[] first = new int[MOST_INPUTS];
        final int[] second = new int[MOST_INPUTS];
        final int[] third = new int[MOST_INPUTS];
        final long[] amounts = new long[MOST_INPUTS];
        int size;

        int add(int kind, int one, int two, int three, long amount) {
            if (size >= 0 && size < MOST_INPUTS) {
                kinds[size] = kind;
                first[size] = one;
                second[size] = two;
                third[size] = three;
                amounts[size] = amount;
                size++;
            }
            return size;
        }
    }

    /** The WARNINGS and PAYMENTS of a transaction. */
    private static final class Events {
        final int[] warning = new int[MOST_EVENTS];
        final int[] raiser = new int[MOST_EVENTS];
        final int[] payer = new int[MOST_EVENTS];
        final int[] payee = new int[MOST_EVENTS];
        final int[] token = new int[MOST_EVENTS];
        final long[] amount = new long[MOST_EVENTS];
        int warnings;
        int payments;

        void clear() {
            warnings = 0;
            payments = 0;
        }

        void warn(int what, int node) {
            if (warnings >= 0 && warnings < MOST_EVENTS) {
                warning[warnings] = what;
                raiser[warnings] = node;
                warnings++;
            }
        }

        void pay(int from, int to, int what, long howMuch) {
            if (payments >= 0 && payments < MOST_EVENTS) {
                payer[payments] = from;
                payee[payments] = to;
                token[payments] = what;
                amount[payments] = howMuch;
                payments++;
            }
        }
    }

    /** The WALLETS, and what is left of them in a transaction that is not settled yet. */
    private static final class Wallets {
        final long[] has = new long[CELLS];
        private final long[] left = new long[CELLS];

        void begin() {
            System.arraycopy(has, 0, left, 0, CELLS);
        }

        boolean take(int party, int token, long amount) {
            int cell = party * TOKENS + token;
            if (cell < 0 || cell >= CELLS || left[cell] < amount) {
                return false;
            }
            left[cell] -= amount;
            return true;
        }

        /** Pays out; false, with nothing done, if a WALLET would have too much. */
        boolean settle(Events events) {
            for (int i = 0; i < events.payments && i < MOST_EVENTS; i++) {
                int cell = events.payee[i] * TOKENS + events.token[i];
                if (cell < 0 || cell >= CELLS || left[cell] > LARGEST - events.amount[i]) {
                    return false;
                }
                left[cell] += events.amount[i];
            }
            System.arraycopy(left, 0, has, 0, CELLS);
            return true;
        }
    }

    /** Reckons values in a STATE and an interval; what is LARGE is told by a field, its value is 0. */
    private static final class Reckoner {
        private final Tree tree;
        private Situation situation;
        private long low;
        private long high;
        boolean large;

        Reckoner(Tree tree, Situation situation) {
            this.tree = tree;
            this.situation = situation;
        }

        void look(Situation at, long from, long to) {
            situation = at;
            low = from;
            high = to;
            large = false;
        }

        long value(int node, int nested) {
            if (large || nested > MOST_NESTED || !tree.has(node)) {
                return 0;
            }
            int left = tree.left[node];
            int right = tree.right[node];
            switch (tree.kinds[node]) {
                case NUMBER:
                    return tree.numbers[node];
                case BALANCE:
                    return situation.balance(tree.first[node], tree.second[node]);
                case CHOSEN:
                    return situation.chosenOf(tree.first[node]);
                case USE:
                    return situation.usedOf(tree.first[node]);
                case START:
                    return bounded(low);
                case END:
                    return bounded(high);
                case NEG:
                    return -value(left, nested + 1);
                case COND:
                    return value(truth(left, nested + 1) ? tree.middle[node] : right, nested + 1);
                case PLUS:
                    return bounded(value(left, nested + 1) + value(right, nested + 1));
                case MINUS:
                    return bounded(value(left, nested + 1) - value(right, nested + 1));
                case TIMES:
                    return product(value(left, nested + 1), value(right, nested + 1));
                default:
                    return quotient(value(left, nested + 1), value(right, nested + 1));
            }
        }

        boolean truth(int node, int nested) {
            if (large || nested > MOST_NESTED || !tree.has(node)) {
                return false;
            }
            int kind = tree.kinds[node];
            switch (kind) {
                case TRUE:
                    return true;
                case FALSE:
                    return false;
                case NOT:
                    return !truth(tree.left[node], nested + 1);
                case MADE:
                    return situation.isMade(tree.first[node]);
                case AND:
                case OR:
                    // Both are reckoned always: the second one may be LARGE.
                    boolean one = truth(tree.left[node], nested + 1);
                    boolean other = truth(tree.right[node], nested + 1);
                    return kind == AND ? one && other : one || other;
                default:
                    return compare(kind, value(tree.left[node], nested + 1), value(tree.right[node], nested + 1));
            }
        }

        private static boolean compare(int kind, long a, long b) {
            switch (kind) {
                case BELOW:
                    return a < b;
                case AT_MOST:
                    return a <= b;
                case ABOVE:
                    return a > b;
                case AT_LEAST:
                    return a >= b;
                default:
                    return a == b;
            }
        }

        private static long quotient(long a, long b) {
            return b == 0 ? 0 : a / b;
        }

        private long product(long a, long b) {
            if (a == 0) {
                return 0;
            }
            if (Math.abs(b) > LARGEST / Math.abs(a)) {
                large = true;
                return 0;
            }
            return a * b;
        }

        /** A sum of two values in bounds that wraps around is Long.MIN_VALUE, which is beyond, too. */
        private long bounded(long value) {
            if (value > LARGEST || value < -LARGEST) {
                large = true;
                return 0;
            }
            return value;
        }
    }

    /** Runs transactions on a STATE that it is given, and changes it: on an ERROR it is spoilt. */
    private static final class Machine {
        private final Tree tree;
        /** null where WALLETS do not count. */
        private final Wallets wallets;
        private final Reckoner reckoner;
        private Situation situation;
        private long low;
        private long high;
        private int error;
        final Events events = new Events();

        Machine(Tree tree, Wallets wallets) {
            this.tree = tree;
            this.wallets = wallets;
            situation = new Situation();
            reckoner = new Reckoner(tree, situation);
        }

        int run(Situation at, Inputs inputs, long from, long to) {
            events.clear();
            error = to < from ? ERROR_INTERVAL : to < at.time ? ERROR_PAST : 0;
            if (error == 0) {
                enter(at, Math.max(from, at.time), to);
                boolean reduced = reduce();
                if (error == 0 && inputs.size == 0 && !reduced) {
                    error = ERROR_USELESS;
                }
            }
            for (int i = 0; i < inputs.size && i < MOST_INPUTS && error == 0; i++) {
                takeInput(inputs, i);
                reduce();
            }
            if (error == 0 && wallets != null && !wallets.settle(events)) {
                error = ERROR_LARGE;
            }
            if (error != 0) {
                events.clear();
            }
            return error;
        }

        private void enter(Situation at, long from, long to) {
            situation = at;
            low = from;
            high = to;
            situation.time = low;
            reckoner.look(situation, low, high);
            if (wallets != null) {
                wallets.begin();
            }
        }

        /** Whether the STATE would not stay as it is in an interval that is just its TIME. */
        boolean isReducible(Situation at) {
            int kind = tree.kindOf(at.node);
            if (kind == CLOSE) {
                return at.firstFilled() != NONE;
            }
            return kind != WHEN || tree.numbers[at.node] <= at.time;
        }

        /** REDUCES as long as can be, or to an ERROR; false if there was nothing to be done. */
        private boolean reduce() {
            boolean reduced = false;
            for (int i = 0; i < MOST_EVENTS && error == 0; i++) {
                int node = situation.node;
                boolean done = true;
                switch (tree.kindOf(node)) {
                    case CLOSE:
                        done = closeAccount();
                        break;
                    case PAY:
                        pay(node);
                        break;
                    case IF:
                        situation.node = reckoner.truth(tree.left[node], 1) ? tree.middle[node] : tree.right[node];
                        break;
                    case WHEN:
                        done = passTime(node);
                        break;
                    case LET:
                        let(node);
                        break;
                    case ASSERT:
                        if (!reckoner.truth(tree.left[node], 1)) {
                            events.warn(WARNING_ASSERT, node);
                        }
                        situation.node = tree.right[node];
                        break;
                    default:
                        done = false;
                        break;
                }
                if (reckoner.large) {
                    error = ERROR_LARGE;
                }
                if (!done) {
                    return reduced;
                }
                reduced = true;
            }
            return reduced;
        }

        private boolean closeAccount() {
            int cell = situation.firstFilled();
            if (cell < 0 || cell >= CELLS) {
                return false;
            }
            int party = cell / TOKENS;
            events.pay(party, party, cell % TOKENS, situation.accounts[cell]);
            situation.accounts[cell] = 0;
            return true;
        }

        private void pay(int node) {
            long due = reckoner.value(tree.left[node], 1);
            int from = tree.first[node];
            int to = tree.second[node];
            int token = tree.third[node];
            situation.node = tree.right[node];
            if (due <= 0) {
                events.warn(WARNING_PAY, node);
                return;
            }
            long amount = Math.min(due, situation.balance(from, token));
            situation.addTo(from, token, -amount);
            if (amount < due) {
                events.warn(WARNING_PARTLY, node);
            }
            if (!tree.into[node] && amount != 0) {
                events.pay(from, to, token, amount);
            } else if (tree.into[node] && !situation.addTo(to, token, amount)) {
                error = ERROR_LARGE;
            }
        }

        private boolean passTime(int node) {
            long limit = tree.numbers[node];
            if (high < limit) {
                return false;
            }
            if (limit > low) {
                error = ERROR_AMBIGUOUS;
                return false;
            }
            situation.node = tree.right[node];
            return true;
        }

        private void let(int node) {
            int variable = tree.first[node];
            long value = reckoner.value(tree.left[node], 1);
            if (situation.isUsed(variable)) {
                events.warn(WARNING_USED, node);
            }
            situation.setUsed(variable, value);
            situation.node = tree.right[node];
        }

        private void takeInput(Inputs inputs, int input) {
            int node = situation.node;
            int action = tree.kindOf(node) == WHEN ? tree.left[node] : NONE;
            for (int i = 0; i < MOST_ACTIONS && tree.has(action); i++) {
                boolean fits = isFitting(action, inputs, input);
                if (reckoner.large) {
                    error = ERROR_LARGE;
                    return;
                }
                if (fits) {
                    accept(action, inputs.amounts[input]);
                    return;
                }
                action = tree.right[action];
            }
            error = ERROR_NO_MATCH;
        }

        private boolean isFitting(int action, Inputs inputs, int input) {
            int kind = tree.kinds[action];
            if (kind != inputs.kinds[input]) {
                return false;
            }
            if (kind == NOTIFY) {
                return reckoner.truth(tree.left[action], 1);
            }
            if (tree.first[action] != inputs.first[input]) {
                return false;
            }
            long amount = inputs.amounts[input];
            if (kind == CHOICE) {
                return tree.isWithin(action, amount);
            }
            return tree.second[action] == inputs.second[input] && tree.third[action] == inputs.third[input]
                    && reckoner.value(tree.left[action], 1) == amount;
        }

        private void accept(int action, long amount) {
            int kind = tree.kinds[action];
            if (kind == CHOICE) {
                situation.setChosen(tree.first[action], amount);
            } else if (kind == DEPOSIT && amount <= 0) {
                events.warn(WARNING_DEPOSIT, action);
            } else if (kind == DEPOSIT) {
                receive(action, amount);
            }
            situation.node = tree.middle[action];
        }

        private void receive(int action, long amount) {
            int token = tree.third[action];
            if (wallets != null && !wallets.take(tree.second[action], token, amount)) {
                error = ERROR_WALLET;
            } else if (!situation.addTo(tree.first[action], token, amount)) {
                error = ERROR_LARGE;
            }
        }
    }

    /** Looks in depth for STEPS that raise a WARNING; level k is where k STEPS have led. */
    private static final class Analyser {
        private static final int UNSEEN = -3, SPENT = -2;

        private final Tree tree;
        private final Machine machine;
        private final Reckoner reckoner;
        private final Inputs inputs = new Inputs();
        private final Situation[] levels = new Situation[MOST_LEVELS];
        /** The A that is tried next on a level, NONE for the TIME behind them, UNSEEN or SPENT. */
        private final int[] nextAction = new int[MOST_LEVELS];
        private final int[] nextNumber = new int[MOST_LEVELS];
        final int[] stepKind = new int[MOST_LEVELS];
        final long[] stepNumber = new long[MOST_LEVELS];
        final int[] stepNode = new int[MOST_LEVELS];
        int looked;
        int found;

        Analyser(Tree tree) {
            this.tree = tree;
            machine = new Machine(tree, null);
            for (int i = 0; i < MOST_LEVELS; i++) {
                levels[i] = new Situation();
            }
            reckoner = new Reckoner(tree, levels[0]);
        }

        int look(Situation from) {
            looked = 0;
            found = 0;
            if (tree.isOutside(from.node)) {
                return OUTSIDE;
            }
            int level = 0;
            levels[level].copyFrom(from);
            nextAction[level] = UNSEEN;
            for (int turn = 0; turn < MOST_TURNS && level >= 0; turn++) {
                // The last level is only there to be led to: no text is nested so deep.
                if (level + 1 >= MOST_LEVELS || !findStep(level)) {
                    level--;
                    continue;
                }
                looked++;
                if (looked > MOST_STEPS) {
                    return FUEL;
                }
                if (!takeStep(level)) {
                    continue;
                }
                level++;
                if (machine.events.warnings > 0) {
                    found = level;
                    return FOUND;
                }
                nextAction[level] = UNSEEN;
            }
            return CLEAN;
        }

        /** Sets the next STEP of a level; false if there is none left. */
        private boolean findStep(int level) {
            Situation at = levels[level];
            if (nextAction[level] == UNSEEN) {
                if (machine.isReducible(at)) {
                    nextAction[level] = SPENT;
                    return setStep(level, STEP_ALONE, 0, NONE);
                }
                nextAction[level] = tree.kindOf(at.node) == WHEN ? tree.left[at.node] : SPENT;
                nextNumber[level] = 0;
            }
            for (int i = 0; i < MOST_ACTIONS && tree.has(nextAction[level]); i++) {
                if (findStepFor(level, nextAction[level])) {
                    return true;
                }
            }
            if (nextAction[level] != NONE) {
                return false;
            }
            nextAction[level] = SPENT;
            return setStep(level, STEP_TIME, tree.numbers[at.node], NONE);
        }

        /** Sets the next STEP for an A, and goes on to the next A behind its last one. */
        private boolean findStepFor(int level, int action) {
            Situation at = levels[level];
            reckoner.look(at, at.time, at.time);
            int kind = tree.kinds[action];
            if (kind == CHOICE && nextNumber[level] < tree.numbersTried(action)) {
                nextNumber[level]++;
                return setStep(level, STEP_CHOICE, tree.numberTried(action, nextNumber[level] - 1), action);
            }
            nextNumber[level] = 0;
            nextAction[level] = tree.right[action];
            if (kind == DEPOSIT) {
                return setStep(level, STEP_DEPOSIT, reckoner.value(tree.left[action], 1), action);
            }
            if (kind == NOTIFY && (reckoner.truth(tree.left[action], 1) || reckoner.large)) {
                return setStep(level, STEP_NOTIFY, 0, action);
            }
            return false;
        }

        private boolean setStep(int level, int kind, long number, int node) {
            stepKind[level] = kind;
            stepNumber[level] = number;
            stepNode[level] = node;
            return true;
        }

        /** Leads a level's STEP to the next level; false: it has an ERROR. */
        private boolean takeStep(int level) {
            int kind = stepKind[level];
            // A deposit of a LARGE V is no INPUT at all; a notification is one, and an A before may take it.
            if (kind == STEP_DEPOSIT && reckoner.large) {
                return false;
            }
            Situation next = levels[level + 1];
            next.copyFrom(levels[level]);
            long time = kind == STEP_TIME ? stepNumber[level] : next.time;
            setInput(stepNode[level], stepNumber[level]);
            return machine.run(next, inputs, time, time) == 0;
        }

        private void setInput(int action, long number) {
            inputs.size = 0;
            if (tree.has(action)) {
                inputs.add(tree.kinds[action], tree.first[action], tree.second[action], tree.third[action], number);
            }
        }
    }
}
