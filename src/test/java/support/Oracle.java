import java.math.BigInteger;
import java.util.ArrayList;
import java.util.List;
import java.util.Map;
import java.util.TreeMap;
import java.util.regex.Matcher;
import java.util.regex.Pattern;

/**
 * The document once more, written another way: objects for all, whole numbers without bounds, recursion.
 * It is only there to be asked the same as the program.
 */
final class Oracle {
    private static final BigInteger LARGEST = BigInteger.ONE.shiftLeft(62);
    private static final Pattern TOKEN =
            Pattern.compile("[ \n]*(?:([a-zA-Z_][a-zA-Z_0-9]{0,15})|(-?[0-9]{1,17})|(<=|>=|[^ \n]))");
    private static final List<String> KEYS = List.of(("close pay to into if when let assert deposit choice notify balance neg chosen "
            + "use start end cond true false and or not made").split(" "));

    private static final class Wrong extends RuntimeException {
        final int at;

        Wrong(int at) {
            super(null, null, false, false);
            this.at = at;
        }
    }

    private static final class Error extends RuntimeException {
        final int number;

        Error(int number) {
            super(null, null, false, false);
            this.number = number;
        }
    }

    private static final class Word {
        String text;
        char sort;
        int at;
    }

    private static final class Node {
        int number;
        String word;
        List<Integer> names = new ArrayList<>();
        List<Node> parts = new ArrayList<>();
        List<Node> actions = new ArrayList<>();
        List<long[]> bounds = new ArrayList<>();
        BigInteger value;
        boolean into;

        Node part(int i) {
            return parts.get(i);
        }
    }

    private static final class World {
        Node node;
        BigInteger time = BigInteger.ZERO;
        Map<Integer, BigInteger> accounts = new TreeMap<>();
        Map<Integer, BigInteger> chosen = new TreeMap<>();
        Map<Integer, BigInteger> used = new TreeMap<>();

        World copy() {
            World w = new World();
            w.node = node;
            w.time = time;
            w.accounts.putAll(accounts);
            w.chosen.putAll(chosen);
            w.used.putAll(used);
            return w;
        }
    }

    private static final class Input {
        String sort;
        List<Integer> names;
        BigInteger value;

        Input(String sort, List<Integer> names, BigInteger value) {
            this.sort = sort;
            this.names = names;
            this.value = value;
        }
    }

    /** One run of a transaction. */
    private static final class Run {
        World w;
        BigInteger low;
        BigInteger high;
        Map<Integer, BigInteger> wallets;
        Map<Integer, BigInteger> spent = new TreeMap<>();
        List<int[]> warnings = new ArrayList<>();
        List<int[]> payments = new ArrayList<>();
        List<BigInteger> amounts = new ArrayList<>();
        boolean reduced;

        BigInteger small(BigInteger v) {
            if (v.abs().compareTo(LARGEST) > 0) {
                throw new Error(6);
            }
            return v;
        }

        BigInteger v(Node n) {
            switch (n.word) {
                case "balance":
                    return w.accounts.getOrDefault(n.names.get(0) * 4 + n.names.get(1), BigInteger.ZERO);
                case "neg":
                    return small(v(n.part(0)).negate());
                case "+":
                    return small(v(n.part(0)).add(v(n.part(1))));
                case "-":
                    return small(v(n.part(0)).subtract(v(n.part(1))));
                case "*":
                    return small(v(n.part(0)).multiply(v(n.part(1))));
                case "/":
                    BigInteger over = v(n.part(0));
                    BigInteger under = v(n.part(1));
                    return under.signum() == 0 ? BigInteger.ZERO : small(over.divide(under));
                case "chosen":
                    return w.chosen.getOrDefault(n.names.get(0), BigInteger.ZERO);
                case "use":
                    return w.used.getOrDefault(n.names.get(0), BigInteger.ZERO);
                case "start":
                    return small(low);
                case "end":
                    return small(high);
                case "cond":
                    return o(n.part(0)) ? v(n.part(1)) : v(n.part(2));
                default:
                    return n.value;
            }
        }

        boolean o(Node n) {
            switch (n.word) {
                case "true":
                    return true;
                case "false":
                    return false;
                case "and":
                    return o(n.part(0)) & o(n.part(1));
                case "or":
                    return o(n.part(0)) | o(n.part(1));
                case "not":
                    return !o(n.part(0));
                case "made":
                    return w.chosen.containsKey(n.names.get(0));
                default:
                    int c = v(n.part(0)).compareTo(v(n.part(1)));
                    return n.word.equals("=") ? c == 0 : (n.word.startsWith("<") ? c < 0 : c > 0) || (c == 0 && n.word.endsWith("="));
            }
        }

        void put(int cell, BigInteger more) {
            w.accounts.merge(cell, more, BigInteger::add);
            if (w.accounts.get(cell).signum() == 0) {
                w.accounts.remove(cell);
            } else {
                small(w.accounts.get(cell));
            }
        }

        void pay(int from, int to, int token, BigInteger amount) {
            payments.add(new int[] {from, to, token});
            amounts.add(amount);
        }

        void reduce() {
            while (true) {
                Node n = w.node;
                if (n.word.equals("close")) {
                    if (w.accounts.isEmpty()) {
                        return;
                    }
                    int cell = w.accounts.keySet().iterator().next();
                    pay(cell / 4, cell / 4, cell % 4, w.accounts.remove(cell));
                } else if (n.word.equals("when")) {
                    if (high.compareTo(n.value) < 0) {
                        return;
                    }
                    if (n.value.compareTo(low) > 0) {
                        throw new Error(3);
                    }
                    w.node = n.part(0);
                } else {
                    reduceOther(n);
                }
                reduced = true;
            }
        }

        void reduceOther(Node n) {
            if (n.word.equals("pay")) {
                BigInteger due = v(n.part(0));
                int from = n.names.get(0) * 4 + n.names.get(2);
                BigInteger is = due.min(w.accounts.getOrDefault(from, BigInteger.ZERO));
                if (due.signum() <= 0) {
                    warnings.add(new int[] {2, n.number});
                } else {
                    if (is.compareTo(due) < 0) {
                        warnings.add(new int[] {3, n.number});
                    }
                    put(from, is.negate());
                    if (n.into) {
                        put(n.names.get(1) * 4 + n.names.get(2), is);
                    } else if (is.signum() > 0) {
                        pay(n.names.get(0), n.names.get(1), n.names.get(2), is);
                    }
                }
                w.node = n.part(1);
            } else if (n.word.equals("if")) {
                w.node = o(n.part(0)) ? n.part(1) : n.part(2);
            } else if (n.word.equals("let")) {
                if (w.used.put(n.names.get(0), v(n.part(0))) != null) {
                    warnings.add(new int[] {4, n.number});
                }
                w.node = n.part(1);
            } else {
                if (!o(n.part(0))) {
                    warnings.add(new int[] {5, n.number});
                }
                w.node = n.part(1);
            }
        }

        boolean fits(Node a, Input in) {
            if (!a.word.equals(in.sort)) {
                return false;
            }
            if (a.word.equals("notify")) {
                return o(a.part(0));
            }
            if (!a.names.equals(in.names)) {
                return false;
            }
            if (a.word.equals("deposit")) {
                return v(a.part(0)).equals(in.value);
            }
            return a.bounds.stream().anyMatch(b -> in.value.compareTo(BigInteger.valueOf(b[0])) >= 0
                    && in.value.compareTo(BigInteger.valueOf(b[1])) <= 0);
        }

        void input(Input in) {
            if (!w.node.word.equals("when")) {
                throw new Error(4);
            }
            for (Node a : w.node.actions) {
                if (fits(a, in)) {
                    if (a.word.equals("choice")) {
                        w.chosen.put(a.names.get(0), in.value);
                    } else if (a.word.equals("deposit") && in.value.signum() <= 0) {
                        warnings.add(new int[] {1, a.number});
                    } else if (a.word.equals("deposit")) {
                        int cell = a.names.get(1) * 4 + a.names.get(2);
                        spent.merge(cell, in.value, BigInteger::add);
                        if (wallets != null && wallets.getOrDefault(cell, BigInteger.ZERO).compareTo(spent.get(cell)) < 0) {
                            throw new Error(7);
                        }
                        put(a.names.get(0) * 4 + a.names.get(2), in.value);
                    }
                    w.node = a.part(a.parts.size() - 1);
                    return;
                }
            }
            throw new Error(4);
        }

        void all(List<Input> inputs) {
            if (high.compareTo(low) < 0) {
                throw new Error(1);
            }
            if (high.compareTo(w.time) < 0) {
                throw new Error(2);
            }
            low = low.max(w.time);
            w.time = low;
            reduce();
            for (Input in : inputs) {
                input(in);
                reduce();
            }
            if (inputs.isEmpty() && !reduced) {
                throw new Error(5);
            }
        }

        Map<Integer, BigInteger> settled() {
            Map<Integer, BigInteger> after = new TreeMap<>(wallets);
            spent.forEach((cell, amount) -> after.merge(cell, amount.negate(), BigInteger::add));
            for (int i = 0; i < amounts.size(); i++) {
                after.merge(payments.get(i)[1] * 4 + payments.get(i)[2], amounts.get(i), BigInteger::add);
            }
            after.values().forEach(this::small);
            return after;
        }
    }

    private StringBuilder fed = new StringBuilder();
    private List<Word> words;
    private int place;
    private int nodes;
    private final List<List<String>> names = new ArrayList<>();
    private int wrongAt = -1;
    private World world;
    private Map<Integer, BigInteger> wallets = new TreeMap<>();
    private List<Input> inputs = new ArrayList<>();
    private Run latest = new Run();
    private int looked;
    private List<long[]> found = new ArrayList<>();

    Oracle() {
        for (int i = 0; i < 4; i++) {
            names.add(new ArrayList<>());
        }
    }

    int feed(int a, int b, int c, int d, int e) {
        if (fed.length() + 20 > 8200) {
            throw new IndexOutOfBoundsException();
        }
        for (int four : new int[] {a, b, c, d, e}) {
            for (int shift = 24; shift >= 0; shift -= 8) {
                fed.append((char) (four >> shift & 255));
            }
        }
        return fed.length();
    }

    int end(int n) {
        if (n < 0 || n > 8192 || n > fed.length()) {
            throw new IndexOutOfBoundsException();
        }
        String text = fed.substring(0, n);
        fed = new StringBuilder();
        inputs.clear();
        world = null;
        wrongAt = -1;
        nodes = 0;
        names.forEach(List::clear);
        try {
            Node all = readAll(text);
            world = new World();
            world.node = all;
            return nodes;
        } catch (Wrong e) {
            wrongAt = e.at;
            throw new IllegalArgumentException();
        }
    }

    private Node readAll(String text) {
        for (int i = 0; i < text.length(); i++) {
            char c = text.charAt(i);
            if (c != 10 && (c < 32 || c > 126)) {
                throw new Wrong(i);
            }
        }
        words = new ArrayList<>();
        place = 0;
        Matcher m = TOKEN.matcher(text);
        for (int at = 0; m.find(at) && m.start() == at; at = m.end()) {
            int g = m.group(1) != null ? 1 : m.group(2) != null ? 2 : 3;
            Word w = new Word();
            w.text = m.group(g);
            w.at = m.start(g);
            w.sort = g == 2 ? '0' : g == 3 ? 's' : KEYS.contains(w.text) ? 'k' : 'n';
            words.add(w);
        }
        Word last = new Word();
        last.text = "";
        last.at = text.length();
        last.sort = '.';
        words.add(last);
        Node all = read('C', 1);
        check(word().sort == '.');
        return all;
    }

    private Word word() {
        return words.get(place);
    }

    private boolean is(String text) {
        return word().sort != 'n' && word().text.equals(text);
    }

    private void check(boolean right) {
        if (!right) {
            throw new Wrong(word().at);
        }
    }

    private void expect(String text) {
        check(is(text));
        place++;
    }

    private BigInteger number() {
        check(word().sort == '0');
        return new BigInteger(words.get(place++).text);
    }

    private int name(int kind) {
        check(word().sort == 'n');
        int number = intern(kind, word().text);
        check(number >= 0);
        place++;
        return number;
    }

    private int intern(int kind, String name) {
        List<String> list = names.get(kind);
        if (!list.contains(name)) {
            if (list.size() == (kind == 1 ? 4 : 8)) {
                return -1;
            }
            list.add(name);
        }
        return list.indexOf(name);
    }

    private int choice() {
        check(word().sort == 'n');
        Word w = words.get(place++);
        check(word().sort == 'n');
        int number = intern(2, w.text + " " + word().text);
        if (number < 0) {
            throw new Wrong(w.at);
        }
        name(0);
        return number;
    }

    private static final Map<String, String> SHAPES = new TreeMap<>();

    static {
        // p t x h: names, C V O: parts, ~ to or into, L the list of a when, N its number, B bounds
        String[] shapes = {"C close ", "C pay p~ptVC", "C if OCC", "C when LNC", "C let xVC", "C assert OC", "A deposit pptV",
            "A choice hB", "A notify O", "V balance pt", "V neg V", "V + VV", "V - VV", "V * VV", "V / VV", "V chosen h", "V use x",
            "V start ", "V end ", "V cond OVV", "O true ", "O false ", "O and OO", "O or OO", "O not O", "O made h", "O >= VV",
            "O > VV", "O < VV", "O <= VV", "O = VV"};
        for (String s : shapes) {
            String[] three = s.split(" ", -1);
            SHAPES.put(three[0] + three[1], three[2]);
        }
    }

    private Node read(char sort, int depth) {
        if (sort != 'A') {
            check(depth <= 100);
            if (is("(")) {
                place++;
                Node inner = read(sort, depth + 1);
                expect(")");
                return inner;
            }
        }
        Word w = word();
        boolean number = sort == 'V' && w.sort == '0';
        String shape = w.sort == 'n' ? null : SHAPES.get(sort + w.text);
        check(number || shape != null);
        check(nodes < 800);
        Node n = new Node();
        n.number = nodes++;
        n.word = number ? "0" : w.text;
        place++;
        if (number) {
            n.value = new BigInteger(w.text);
            return n;
        }
        for (char c : shape.toCharArray()) {
            readPart(n, c, depth);
        }
        return n;
    }

    private void readPart(Node n, char c, int depth) {
        int kind = "ptxh".indexOf(c);
        if (c == 'h') {
            n.names.add(choice());
        } else if (kind >= 0) {
            n.names.add(name(c == 'x' ? 3 : kind));
        } else if (c == '~') {
            check(is("to") || is("into"));
            n.into = is("into");
            place++;
        } else if (c == 'N') {
            n.value = number();
        } else if (c == 'B') {
            expect("[");
            do {
                long low = number().longValue();
                check(word().sort == '0' && Long.parseLong(word().text) >= low);
                n.bounds.add(new long[] {low, number().longValue()});
            } while (!is("]"));
            expect("]");
        } else if (c == 'L') {
            expect("[");
            while (!is("]")) {
                check(n.actions.size() < 8);
                Node a = read('A', depth);
                a.parts.add(read('C', depth + 1));
                n.actions.add(a);
            }
            expect("]");
        } else {
            n.parts.add(read(c, depth + 1));
        }
    }

    int wrong() {
        return wrongAt;
    }

    long wallet(int party, int token, long amount) {
        argument(party >= 0 && party < 8 && token >= 0 && token < 4 && amount >= 0 && amount <= 1L << 61);
        BigInteger before = wallets.put(party * 4 + token, BigInteger.valueOf(amount));
        return before == null ? 0 : before.longValueExact();
    }

    private static void argument(boolean right) {
        if (!right) {
            throw new IllegalArgumentException();
        }
    }

    private static void index(boolean right) {
        if (!right) {
            throw new IndexOutOfBoundsException();
        }
    }

    private void contract() {
        if (world == null) {
            throw new IllegalStateException();
        }
    }

    private int input(String sort, List<Integer> list, long value) {
        index(inputs.size() < 16);
        inputs.add(new Input(sort, list, BigInteger.valueOf(value)));
        return inputs.size();
    }

    int deposit(int account, int party, int token, long amount) {
        argument(account >= 0 && account < 8 && party >= 0 && party < 8 && token >= 0 && token < 4);
        return input("deposit", List.of(account, party, token), amount);
    }

    int choose(int choice, long v) {
        argument(choice >= 0 && choice < 8);
        return input("choice", List.of(choice), v);
    }

    int remind() {
        return input("notify", List.of(), 0);
    }

    int apply(long low, long high) {
        contract();
        Run run = new Run();
        run.w = world.copy();
        run.low = BigInteger.valueOf(low);
        run.high = BigInteger.valueOf(high);
        run.wallets = wallets;
        List<Input> list = inputs;
        inputs = new ArrayList<>();
        latest = new Run();
        try {
            run.all(list);
            wallets = run.settled();
        } catch (Error e) {
            return e.number;
        }
        latest = run;
        world = run.w;
        return 0;
    }

    int told(int what, int k) {
        argument(what >= 0 && what <= 4);
        List<int[]> list = what < 2 ? latest.warnings : latest.payments;
        index(k >= 0 && k < list.size());
        return list.get(k)[what < 2 ? what : what - 2];
    }

    long paid(int k) {
        index(k >= 0 && k < latest.amounts.size());
        return latest.amounts.get(k).longValueExact();
    }

    long state(int what, int a, int b) {
        argument(what >= 0 && what <= 4 && a >= 0 && a < 8 && b >= 0 && b < 4);
        if (what == 1) {
            return wallets.getOrDefault(a * 4 + b, BigInteger.ZERO).longValueExact();
        }
        contract();
        if (what == 4) {
            return world.time.longValueExact();
        }
        Map<Integer, BigInteger> map = what == 0 ? world.accounts : what == 2 ? world.chosen : world.used;
        return map.getOrDefault(what == 0 ? a * 4 + b : a, BigInteger.ZERO).longValueExact();
    }

    int analyse() {
        contract();
        looked = 0;
        found = new ArrayList<>();
        if (outside(world.node)) {
            return 3;
        }
        List<long[]> path = new ArrayList<>();
        int answer = search(world, path);
        if (answer == 1) {
            found = path;
        }
        return answer;
    }

    private boolean outside(Node n) {
        BigInteger sum = BigInteger.ZERO;
        for (long[] b : n.bounds) {
            sum = sum.add(BigInteger.valueOf(b[1]).subtract(BigInteger.valueOf(b[0])).add(BigInteger.ONE));
        }
        return n.word.equals("start") || n.word.equals("end") || sum.intValueExact() > 16
                || n.parts.stream().anyMatch(this::outside) || n.actions.stream().anyMatch(this::outside);
    }

    private static final class Move {
        long[] step;
        List<Input> inputs = new ArrayList<>();
        BigInteger time;
        boolean bad;

        Move(BigInteger time, long kind, long number, long node) {
            this.time = time;
            step = new long[] {kind, number, node};
        }

        Move with(String sort, List<Integer> list, BigInteger value) {
            inputs.add(new Input(sort, list, value));
            return this;
        }
    }

    private List<Move> moves(World w) {
        List<Move> list = new ArrayList<>();
        Node n = w.node;
        boolean when = n.word.equals("when");
        boolean stays = when ? w.time.compareTo(n.value) < 0 : n.word.equals("close") && w.accounts.isEmpty();
        if (!stays) {
            list.add(new Move(w.time, 0, 0, -1));
            return list;
        }
        if (!when) {
            return list;
        }
        Run run = new Run();
        run.w = w;
        run.low = w.time;
        run.high = w.time;
        for (Node a : n.actions) {
            if (a.word.equals("choice")) {
                for (long[] b : a.bounds) {
                    for (long i = b[0]; i <= b[1]; i++) {
                        list.add(new Move(w.time, 2, i, a.number).with("choice", a.names, BigInteger.valueOf(i)));
                    }
                }
            } else if (a.word.equals("deposit")) {
                try {
                    BigInteger v = run.v(a.part(0));
                    list.add(new Move(w.time, 1, v.longValueExact(), a.number).with("deposit", a.names, v));
                } catch (Error e) {
                    Move move = new Move(w.time, 1, 0, a.number);
                    move.bad = true;
                    list.add(move);
                }
            } else {
                boolean one = true;
                try {
                    one = run.o(a.part(0));
                } catch (Error e) {
                    one = true;
                }
                if (one) {
                    list.add(new Move(w.time, 3, 0, a.number).with("notify", List.of(), BigInteger.ZERO));
                }
            }
        }
        list.add(new Move(n.value, 4, n.value.longValueExact(), -1));
        return list;
    }

    private int search(World w, List<long[]> path) {
        for (Move move : moves(w)) {
            if (++looked > 5000) {
                return 2;
            }
            Run run = new Run();
            run.w = w.copy();
            run.low = move.time;
            run.high = move.time;
            try {
                if (move.bad) {
                    throw new Error(6);
                }
                run.all(move.inputs);
            } catch (Error e) {
                continue;
            }
            path.add(move.step);
            int answer = run.warnings.isEmpty() ? search(run.w, path) : 1;
            if (answer != 0) {
                return answer;
            }
            path.remove(path.size() - 1);
        }
        return 0;
    }

    long step(int k, int what) {
        argument(what >= 0 && what <= 2);
        index(k >= 0 && k < found.size());
        return found.get(k)[what];
    }

    int count(int what) {
        argument(what >= 0 && what <= 10);
        int[] answers = {world == null ? -1 : world.node.number, nodes, names.get(0).size(), names.get(1).size(), names.get(2).size(),
            names.get(3).size(), inputs.size(), latest.warnings.size(), latest.payments.size(), looked, found.size()};
        return world == null && what >= 1 && what <= 5 ? 0 : answers[what];
    }

    /** What a move that fits from here could be: for tests that want to get on. */
    List<String> likelyInputs() {
        List<String> list = new ArrayList<>();
        if (world == null) {
            return list;
        }
        Run run = new Run();
        run.w = world.copy();
        run.low = world.time;
        run.high = world.time;
        try {
            run.reduce();
        } catch (Error e) {
            return list;
        }
        if (run.w.node.word.equals("when")) {
            for (Move move : moves(run.w)) {
                for (Input in : move.inputs) {
                    list.add(in.sort + " " + in.names.toString().replaceAll("[\\[\\],]", "") + " " + in.value);
                }
            }
        }
        return list;
    }
}
