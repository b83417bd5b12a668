/** Promises 1 to 15: for each sentence that names a boundary case of a call a test of its own. */
public final class CallEdgesTest {
    private static final long HALF = 1L << 61;
    private static final long LARGEST = 1L << 62;
    private static final String NEXT = "let u use u when [choice q a [7 7] when [] 50 close] 40 close";
    private static final int[] NO_PARTIES = {-1, 8, 9, 256, Integer.MIN_VALUE, Integer.MAX_VALUE};
    private static final int[] NO_TOKENS = {-1, 4, 7, 8, 256, Integer.MIN_VALUE, Integer.MAX_VALUE};

    public static void main(String[] args) {
        newObject();
        objectsByThemselves();
        feedOrder();
        feedFull();
        feedRefused();
        endTakesFirst();
        endEmptiesFed();
        endBegins();
        endRefused();
        endWrong();
        wrongOfLatest();
        walletEdges();
        walletRefused();
        depositEdges();
        depositRefused();
        chooseEdges();
        inputsFull();
        refusedBeforeFull();
        inputsWithoutContract();
        applyTakesInputs();
        applyRefused();
        toldEdges();
        toldRefused();
        toldStays();
        toldBehindError();
        paidEdges();
        stateEdges();
        stateRefused();
        stateWithoutContract();
        analyseEdges();
        analyseRefused();
        stepEdges();
        stepRefused();
        countEdges();
        countWithoutContract();
        countRefused();
        Expect.finish();
    }

    private static void newObject() {
        Expect.sentence("MarloweHost(): Nothing fed, no contract, WALLETS 0");
        MarloweHost x = new MarloweHost();
        Expect.noIndex("end(1)", () -> x.end(1));
        Expect.is("wrong()", -1, x::wrong);
        for (int cell = 0; cell < 32; cell++) {
            int k = cell;
            Expect.is("WALLET", 0, () -> x.state(1, k / 4, k % 4));
        }
        Expect.noState("apply", () -> x.apply(0, 0));
        Expect.noState("analyse", x::analyse);
        Expect.is("count(0)", -1, () -> x.count(0));
        for (int what = 1; what <= 10; what++) {
            int w = what;
            Expect.is("count(" + w + ")", 0, () -> x.count(w));
        }
        Expect.is("the first feed", 20, () -> x.feed(0, 0, 0, 0, 0));
    }

    private static void objectsByThemselves() {
        Expect.sentence("MarloweHost(): Nothing fed, no contract, WALLETS 0");
        MarloweHost x = Expect.host("assert false when [] 9 assert false close");
        x.wallet(0, 0, 5);
        x.remind();
        x.analyse();
        x.apply(0, 0);
        x.feed(1, 2, 3, 4, 5);
        MarloweHost y = new MarloweHost();
        Expect.is("WALLET of another object", 0, () -> y.state(1, 0, 0));
        Expect.is("NODE of another object", -1, () -> y.count(0));
        for (int what = 1; what <= 10; what++) {
            int w = what;
            Expect.is("count(" + w + ") of another object", 0, () -> y.count(w));
        }
        Expect.is("feed of another object", 20, () -> y.feed(0, 0, 0, 0, 0));
    }

    private static void feedOrder() {
        Expect.sentence("feed: 20 octets, four of a first, the highest one first");
        for (int at = 0; at < 20; at++) {
            for (int octet : new int[] {0, 31, 127, 128, 255}) {
                int[] f = {0x20202020, 0x20202020, 0x20202020, 0x20202020, 0x20202020};
                int shift = 24 - 8 * (at % 4);
                f[at / 4] = f[at / 4] & ~(255 << shift) | octet << shift;
                MarloweHost x = new MarloweHost();
                Expect.is("feed", 20, () -> x.feed(f[0], f[1], f[2], f[3], f[4]));
                Expect.noArgument("end(20)", () -> x.end(20));
                Expect.is("the octet of " + octet, at, x::wrong);
            }
        }
        MarloweHost y = new MarloweHost();
        y.feed(0x6c657420, 0x6162635f, 0x206e6567, 0x20343220, 0x636c6f73);
        Expect.is("a second feed", 40, () -> y.feed(0x65202020, 0, 0, 0, 0));
        Expect.is("let abc_ neg 42 close", 4, () -> y.end(21));
        y.apply(0, 0);
        Expect.is("abc_", -42, () -> y.state(3, 0, 0));
    }

    private static void feedFull() {
        Expect.sentence("feed: IndexOutOfBoundsException: there would be more than 8,200");
        MarloweHost x = new MarloweHost();
        for (int i = 1; i <= 410; i++) {
            Expect.is("feed " + i, 20 * i, () -> x.feed(-1, -1, -1, -1, -1));
        }
        Expect.noIndex("feed 411", () -> x.feed(0, 0, 0, 0, 0));
        Expect.noIndex("feed 411 again", () -> x.feed(0, 0, 0, 0, 0));
    }

    private static void feedRefused() {
        Expect.sentence("feed: IndexOutOfBoundsException: there would be more than 8,200");
        // nothing of a refused feed comes to what is fed
        MarloweHost x = new MarloweHost();
        Expect.feed(x, "let x 7 close" + " ".repeat(8187));
        Expect.noIndex("feed 411", () -> x.feed(0x6c657420, 0, 0, 0, 0));
        Expect.is("end", 3, () -> x.end(8192));
        Expect.is("feed then", 20, () -> x.feed(0x20202020, 0, 0, 0, 0));
    }

    private static void endTakesFirst() {
        Expect.sentence("end: THE TEXT is the first n octets of what was fed .. how many NODES");
        String fed = "let x 1 close) not a text";
        int[] wrong = {0, 0, 0, 3, 4, 5, 6, 7, 8, 8, 8, 8, 8, -1, 13};
        for (int i = 0; i < wrong.length; i++) {
            int n = i;
            MarloweHost x = new MarloweHost();
            Expect.feed(x, fed);
            Expect.same("end(" + n + ")", wrong[n] < 0 ? "3" : "throws.IllegalArgumentException", Expect.answer(() -> x.end(n)));
            Expect.is("wrong() of end(" + n + ")", wrong[n], x::wrong);
        }
        // no TOKEN reaches behind THE TEXT
        endsInside("closed", 5, -1);
        endsInside("close2", 5, -1);
        endsInside("let x 12", 7, 7);
        endsInside("let x -1", 7, 7);
        endsInside("assert <=", 8, 8);
        endsInside("assert <=", 9, 9);
        MarloweHost y = new MarloweHost();
        Expect.feed(y, " ".repeat(15) + "close");
        Expect.is("end of all that was fed", 1, () -> y.end(20));
    }

    private static void endsInside(String fed, int octets, int wrong) {
        MarloweHost x = new MarloweHost();
        Expect.feed(x, fed);
        Expect.same("end(" + octets + ") of " + fed, wrong < 0 ? "1" : "throws.IllegalArgumentException", Expect.answer(() -> x.end(octets)));
        Expect.is("wrong() of it", wrong, x::wrong);
    }

    private static void endEmptiesFed() {
        Expect.sentence("end: .. what was fed (which is nothing then, WRONG or not)");
        MarloweHost x = new MarloweHost();
        Expect.feed(x, "close" + " ".repeat(30));
        Expect.is("end", 1, () -> x.end(5));
        Expect.noIndex("end(1)", () -> x.end(1));
        Expect.is("feed", 20, () -> x.feed(0x636c6f73, 0x65202020, 0x20202020, 0x20202020, 0x20202020));
        Expect.noArgument("end(4), WRONG", () -> x.end(4));
        Expect.noIndex("end(1)", () -> x.end(1));
        Expect.noArgument("end(0)", () -> x.end(0));
        Expect.is("wrong()", 0, x::wrong);
        Expect.is("feed", 20, () -> x.feed(0x636c6f73, 0x65202020, 0x20202020, 0x20202020, 0x20202020));
        Expect.is("end", 1, () -> x.end(20));
    }

    /** A host whose STATE, INPUTS, WALLETS and fed octets (80, the NEXT text in them) all are something. */
    private static MarloweHost busy() {
        MarloweHost x = Expect.host("when [deposit a b t 4 when [choice q a [1 2] let u 5 when [] 90 close] 80 close] 70 close");
        x.wallet(1, 0, 10);
        x.deposit(0, 1, 0, 4);
        x.choose(0, 2);
        Expect.is("apply", 0, () -> x.apply(3, 3));
        x.remind();
        Expect.feed(x, NEXT);
        return x;
    }

    private static void isBusy(MarloweHost x) {
        Expect.is("NODE", 7, () -> x.count(0));
        Expect.is("ACCOUNT", 4, () -> x.state(0, 0, 0));
        Expect.is("WALLET", 6, () -> x.state(1, 1, 0));
        Expect.is("CHOSEN", 2, () -> x.state(2, 0, 0));
        Expect.is("USED", 5, () -> x.state(3, 0, 0));
        Expect.is("TIME", 3, () -> x.state(4, 0, 0));
        Expect.is("INPUTS", 1, () -> x.count(6));
    }

    private static void endBegins() {
        Expect.sentence("end: .. its STATE: all of it, TIME 0, ACCOUNTS 0, nothing CHOSEN or USED; no INPUTS; WALLETS stay");
        MarloweHost x = busy();
        isBusy(x);
        Expect.is("end", 7, () -> x.end(NEXT.length()));
        Expect.is("NODE", 0, () -> x.count(0));
        Expect.is("ACCOUNT", 0, () -> x.state(0, 0, 0));
        Expect.is("WALLET", 6, () -> x.state(1, 1, 0));
        Expect.is("CHOSEN", 0, () -> x.state(2, 0, 0));
        Expect.is("USED", 0, () -> x.state(3, 0, 0));
        Expect.is("TIME", 0, () -> x.state(4, 0, 0));
        Expect.is("INPUTS", 0, () -> x.count(6));
        Expect.is("apply", 0, () -> x.apply(0, 0));
        Expect.is("u was not USED: no WARNING", 0, () -> x.count(7));
        MarloweHost y = busy();
        Expect.is("end", 7, () -> y.end(NEXT.length()));
        Expect.read(y, "if made q a close when [] 50 close");
        y.apply(0, 0);
        Expect.is("q was not CHOSEN", 3, () -> y.count(0));
    }

    private static void endRefused() {
        Expect.sentence("end: IndexOutOfBoundsException: n is below 0, above 8,192, or above what was fed (all stays then)");
        MarloweHost x = busy();
        for (int n : new int[] {-1, -8192, Integer.MIN_VALUE, 81, 100, 8192, 8193, Integer.MAX_VALUE}) {
            Expect.noIndex("end(" + n + ")", () -> x.end(n));
            isBusy(x);
            Expect.is("wrong()", -1, x::wrong);
        }
        Expect.is("what was fed stays", 7, () -> x.end(NEXT.length()));
        MarloweHost y = new MarloweHost();
        Expect.feed(y, "close" + " ".repeat(8195));
        Expect.noIndex("end(8193)", () -> y.end(8193));
        Expect.noIndex("end(8200)", () -> y.end(8200));
        Expect.noIndex("end(8201)", () -> y.end(8201));
        Expect.is("end(8192)", 1, () -> y.end(8192));
        Expect.noIndex("end(1) of nothing", () -> y.end(1));
    }

    private static void endWrong() {
        Expect.sentence("end: IllegalArgumentException: WRONG; there is no contract then. (And no INPUTS; WALLETS stay.)");
        MarloweHost x = busy();
        Expect.noArgument("end(60)", () -> x.end(NEXT.length() - 1));
        Expect.is("wrong()", NEXT.length() - 5, x::wrong);
        Expect.is("NODE", -1, () -> x.count(0));
        Expect.is("NODES", 0, () -> x.count(1));
        Expect.is("INPUTS", 0, () -> x.count(6));
        Expect.is("WALLET", 6, () -> x.state(1, 1, 0));
        Expect.noState("state", () -> x.state(4, 0, 0));
        Expect.noState("apply", () -> x.apply(0, 0));
        Expect.noState("analyse", x::analyse);
        MarloweHost y = busy();
        Expect.noArgument("end(0)", () -> y.end(0));
        Expect.is("NODE", -1, () -> y.count(0));
        Expect.is("INPUTS", 0, () -> y.count(6));
    }

    private static void wrongOfLatest() {
        Expect.sentence("wrong: Where the latest TEXT was WRONG; -1 if it was not, or there was none");
        MarloweHost x = new MarloweHost();
        Expect.is("none", -1, x::wrong);
        Expect.feed(x, "close");
        Expect.is("only fed", -1, x::wrong);
        Expect.read(x, "close".repeat(0));
        Expect.is("an empty one", 0, x::wrong);
        Expect.read(x, "close !");
        Expect.is("at 6", 6, x::wrong);
        Expect.noIndex("end(1)", () -> x.end(1));
        Expect.is("what is refused is no TEXT", 6, x::wrong);
        Expect.read(x, "pay");
        Expect.is("the latest one", 3, x::wrong);
        Expect.read(x, "close");
        Expect.is("a right one", -1, x::wrong);
    }

    private static void walletEdges() {
        Expect.sentence("wallet: The WALLET of a PARTY has so much of a TOKEN: what it had");
        MarloweHost x = new MarloweHost();
        for (int cell = 0; cell < 32; cell++) {
            int k = cell;
            Expect.is("wallet", 0, () -> x.wallet(k / 4, k % 4, 100 + k));
        }
        for (int cell = 0; cell < 32; cell++) {
            int k = cell;
            Expect.is("wallet of 2 ** 61", 100 + k, () -> x.wallet(k / 4, k % 4, HALF));
            Expect.is("wallet of 0", HALF, () -> x.wallet(k / 4, k % 4, 0));
            Expect.is("wallet of 1", 0, () -> x.wallet(k / 4, k % 4, 1));
        }
        // what it had may be more than it can be given
        String half = "* 2147483648 1073741824";
        MarloweHost y = Expect.host("when [deposit a b t " + half + " when [deposit a b t " + half + " pay a to b t * 2 " + half
                + " close] 90 close] 80 close");
        for (int i = 0; i < 2; i++) {
            y.wallet(1, 0, HALF);
            y.deposit(0, 1, 0, HALF);
            Expect.is("apply", 0, () -> y.apply(0, 0));
        }
        Expect.is("what it had", LARGEST, () -> y.wallet(1, 0, HALF));
    }

    private static void walletRefused() {
        Expect.sentence("wallet: IllegalArgumentException: party not 0..7, token not 0..3, amount not 0..2 ** 61");
        MarloweHost x = new MarloweHost();
        x.wallet(0, 0, 5);
        x.wallet(7, 3, 6);
        for (int party : NO_PARTIES) {
            Expect.noArgument("party " + party, () -> x.wallet(party, 0, 1));
        }
        for (int token : NO_TOKENS) {
            Expect.noArgument("token " + token, () -> x.wallet(0, token, 1));
        }
        for (long amount : new long[] {-1, HALF + 1, LARGEST, Long.MIN_VALUE, Long.MAX_VALUE}) {
            Expect.noArgument("amount " + amount, () -> x.wallet(0, 0, amount));
        }
        for (int cell = 0; cell < 32; cell++) {
            int k = cell;
            Expect.is("WALLET", k == 0 ? 5 : k == 31 ? 6 : 0, () -> x.state(1, k / 4, k % 4));
        }
    }

    private static void depositEdges() {
        Expect.sentence("deposit: A deposit as an INPUT: how many INPUTS there are");
        MarloweHost x = new MarloweHost();
        Expect.is("the first ones", 1, () -> x.deposit(0, 0, 0, 0));
        Expect.is("the last ones", 2, () -> x.deposit(7, 7, 3, 0));
        Expect.is("the least", 3, () -> x.deposit(0, 7, 0, Long.MIN_VALUE));
        Expect.is("the most", 4, () -> x.deposit(7, 0, 3, Long.MAX_VALUE));
        // of the last PARTIES and the last TOKEN
        MarloweHost y = Expect.host("if false pay a to b t 1 pay c to d u 1 pay e to f v 1 close when [deposit g h w 4 when [] 90 close] 80 close");
        y.wallet(7, 3, 4);
        Expect.is("deposit", 1, () -> y.deposit(6, 7, 3, 4));
        Expect.is("apply", 0, () -> y.apply(0, 0));
        Expect.is("ACCOUNT", 4, () -> y.state(0, 6, 3));
        Expect.is("WALLET", 0, () -> y.state(1, 7, 3));
    }

    private static void depositRefused() {
        Expect.sentence("deposit: IllegalArgumentException: account, party not 0..7, token not 0..3");
        MarloweHost x = new MarloweHost();
        for (int party : NO_PARTIES) {
            Expect.noArgument("account " + party, () -> x.deposit(party, 0, 0, 1));
            Expect.noArgument("party " + party, () -> x.deposit(0, party, 0, 1));
        }
        for (int token : NO_TOKENS) {
            Expect.noArgument("token " + token, () -> x.deposit(0, 0, token, 1));
        }
        Expect.is("INPUTS", 0, () -> x.count(6));
    }

    private static void chooseEdges() {
        Expect.sentence("choose: A choice likewise. IllegalArgumentException: choice not 0..7");
        MarloweHost x = new MarloweHost();
        for (int choice : NO_PARTIES) {
            Expect.noArgument("choice " + choice, () -> x.choose(choice, 1));
        }
        Expect.is("INPUTS", 0, () -> x.count(6));
        Expect.is("the first one", 1, () -> x.choose(0, Long.MIN_VALUE));
        Expect.is("the last one", 2, () -> x.choose(7, Long.MAX_VALUE));
        StringBuilder text = new StringBuilder();
        for (int i = 0; i < 8; i++) {
            text.append("let x chosen q").append(i).append(" a ");
        }
        MarloweHost y = Expect.host("if false " + text + "close when [choice q7 a [5 5] when [] 90 close] 80 close");
        Expect.is("choose", 1, () -> y.choose(7, 5));
        Expect.is("apply", 0, () -> y.apply(0, 0));
        Expect.is("CHOSEN", 5, () -> y.state(2, 7, 0));
    }

    private static int input(MarloweHost x, int kind) {
        return kind == 0 ? x.deposit(0, 1, 0, 1) : kind == 1 ? x.choose(0, 1) : x.remind();
    }

    private static void inputsFull() {
        Expect.sentence("deposit, choose, remind: IndexOutOfBoundsException: there are 16");
        // all 16 are applied, and the one that was refused is not
        String[] actions = {"deposit a b t 1 ", "choice q a [1 1] ", "notify true "};
        for (int kind = 0; kind < 3; kind++) {
            int k = kind;
            MarloweHost x = Expect.host(("when [" + actions[kind]).repeat(17) + "close" + "] 90 close".repeat(17));
            x.wallet(1, 0, 100);
            for (int i = 1; i <= 16; i++) {
                Expect.is("INPUT " + i, i, () -> input(x, k));
            }
            for (int refused = 0; refused < 3; refused++) {
                int r = refused;
                Expect.noIndex("INPUT 17", () -> input(x, r));
            }
            Expect.is("INPUTS", 16, () -> x.count(6));
            Expect.is("apply", 0, () -> x.apply(0, 0));
            Expect.is("NODE", 16 * (kind == 1 ? 2 : 3), () -> x.count(0));
            Expect.is("INPUTS", 0, () -> x.count(6));
            Expect.is("there is room again", 1, () -> input(x, k));
            Expect.is("apply", 0, () -> x.apply(0, 0));
        }
    }

    private static void refusedBeforeFull() {
        Expect.sentence("deposit: IllegalArgumentException: account, party not 0..7 .. IndexOutOfBoundsException: there are 16");
        MarloweHost x = new MarloweHost();
        for (int i = 0; i < 16; i++) {
            x.remind();
        }
        Expect.noArgument("account 8", () -> x.deposit(8, 0, 0, 0));
        Expect.noArgument("party 8", () -> x.deposit(0, 8, 0, 0));
        Expect.noArgument("token 4", () -> x.deposit(0, 0, 4, 0));
        Expect.noArgument("choice 8", () -> x.choose(8, 0));
        Expect.noIndex("deposit", () -> x.deposit(7, 7, 3, 0));
        Expect.noIndex("choose", () -> x.choose(7, 0));
        Expect.noIndex("remind", x::remind);
    }

    private static void inputsWithoutContract() {
        Expect.sentence("deposit: .. (Also without a contract, as choose and remind.)");
        MarloweHost x = new MarloweHost();
        Expect.is("deposit", 1, () -> x.deposit(0, 0, 0, 1));
        Expect.is("choose", 2, () -> x.choose(0, 1));
        Expect.is("remind", 3, x::remind);
        Expect.read(x, "when [notify true close] 9 close");
        Expect.is("end() leaves none", 0, () -> x.count(6));
        Expect.is("so nothing is to be done", 5, () -> x.apply(0, 0));
        Expect.read(x, "!");
        Expect.is("behind a WRONG TEXT", 1, x::remind);
    }

    private static void applyTakesInputs() {
        Expect.sentence("apply: The TRANSACTION with the INPUTS (none are left then) .. (None are left behind an ERROR, too.)");
        MarloweHost x = Expect.host("when [notify true when [notify true when [deposit a b t 1 close] 90 close] 80 close] 70 close");
        x.remind();
        Expect.is("apply", 0, () -> x.apply(5, 5));
        Expect.is("INPUTS", 0, () -> x.count(6));
        long[][] errors = {{6, 5, 1}, {4, 4, 2}, {5, 80, 3}, {5, 5, 4}};
        for (long[] row : errors) {
            x.choose(0, 0);
            Expect.is("ERROR", row[2], () -> x.apply(row[0], row[1]));
            Expect.is("INPUTS behind it", 0, () -> x.count(6));
        }
        x.remind();
        x.deposit(0, 1, 0, 1);
        Expect.is("ERROR", 7, () -> x.apply(5, 5));
        Expect.is("INPUTS behind it", 0, () -> x.count(6));
        x.remind();
        Expect.is("apply", 0, () -> x.apply(5, 5));
    }

    private static void applyRefused() {
        Expect.sentence("apply: IllegalStateException: there is no contract (the INPUTS stay)");
        MarloweHost x = new MarloweHost();
        x.remind();
        x.choose(0, 0);
        Expect.noState("apply(0, 0)", () -> x.apply(0, 0));
        Expect.noState("apply(1, 0)", () -> x.apply(1, 0));
        Expect.is("INPUTS", 2, () -> x.count(6));
        Expect.read(x, "close close");
        x.remind();
        Expect.noState("apply behind a WRONG TEXT", () -> x.apply(0, 0));
        Expect.is("INPUTS", 1, () -> x.count(6));
    }

    /** Two WARNINGS and three PAYMENTS of a's, b's and c's ACCOUNTS. */
    private static MarloweHost telling() {
        MarloweHost x = Expect.host("when [deposit a b t 5 when [deposit b b u 7 assert false pay a to c t 2 pay b into c u 3 assert false "
                + "pay c to a u 1 pay b to b u 4 when [] 99 close] 90 close] 80 close");
        x.wallet(1, 0, 5);
        x.wallet(1, 1, 7);
        x.deposit(0, 1, 0, 5);
        x.deposit(1, 1, 1, 7);
        Expect.is("apply", 0, () -> x.apply(1, 1));
        return x;
    }

    private static void isTelling(MarloweHost x) {
        // the WARNINGS, their NODES, then of the PAYMENTS from whom, to whom, of what
        int[][] rows = {{5, 5}, {6, 12}, {0, 2, 1}, {2, 0, 1}, {0, 1, 1}};
        for (int what = 0; what < rows.length; what++) {
            int w = what;
            for (int i = 0; i < rows[what].length; i++) {
                int k = i;
                Expect.is("told(" + w + ", " + k + ")", rows[w][k], () -> x.told(w, k));
            }
        }
        Expect.is("WARNINGS", 2, () -> x.count(7));
        Expect.is("PAYMENTS", 3, () -> x.count(8));
        long[] paid = {2, 1, 4};
        for (int i = 0; i < paid.length; i++) {
            int k = i;
            Expect.is("paid(" + k + ")", paid[k], () -> x.paid(k));
        }
    }

    private static void toldEdges() {
        Expect.sentence("told: Of the latest apply() .. IndexOutOfBoundsException: there is no k");
        MarloweHost x = telling();
        isTelling(x);
        for (int what = 0; what <= 4; what++) {
            int w = what;
            for (int k : new int[] {-1, w < 2 ? 2 : 3, 100, Integer.MIN_VALUE, Integer.MAX_VALUE}) {
                Expect.noIndex("told(" + w + ", " + k + ")", () -> x.told(w, k));
            }
        }
        MarloweHost y = new MarloweHost();
        for (int what = 0; what <= 4; what++) {
            int w = what;
            Expect.noIndex("without an apply()", () -> y.told(w, 0));
        }
    }

    private static void toldRefused() {
        Expect.sentence("told: IllegalArgumentException for others");
        MarloweHost x = telling();
        for (int what : new int[] {-1, 5, Integer.MIN_VALUE, Integer.MAX_VALUE}) {
            Expect.noArgument("told(" + what + ", 0)", () -> x.told(what, 0));
            Expect.noArgument("told(" + what + ", -1)", () -> x.told(what, -1));
            Expect.noArgument("without an apply()", () -> new MarloweHost().told(what, 0));
        }
    }

    private static void toldStays() {
        Expect.sentence("told: .. end() and what throws leave what was told");
        MarloweHost x = telling();
        x.analyse();
        isTelling(x);
        Expect.noIndex("end(1)", () -> x.end(1));
        isTelling(x);
        Expect.read(x, "assert false close");
        isTelling(x);
        x.analyse();
        isTelling(x);
        Expect.read(x, "assert false");
        isTelling(x);
        Expect.noState("apply", () -> x.apply(0, 0));
        Expect.noState("analyse", x::analyse);
        isTelling(x);
    }

    private static void toldBehindError() {
        Expect.sentence("told: .. (behind an ERROR there is none of all these");
        long[][] errors = {{2, 1, 1}, {0, 0, 2}, {1, 99, 3}, {1, 1, 5}};
        for (long[] row : errors) {
            MarloweHost x = telling();
            Expect.is("ERROR", row[2], () -> x.apply(row[0], row[1]));
            for (int what = 0; what <= 4; what++) {
                int w = what;
                Expect.noIndex("told(" + w + ", 0)", () -> x.told(w, 0));
            }
            Expect.noIndex("paid(0)", () -> x.paid(0));
            Expect.is("WARNINGS", 0, () -> x.count(7));
            Expect.is("PAYMENTS", 0, () -> x.count(8));
        }
        // an apply() that tells less than the one before
        MarloweHost y = telling();
        Expect.is("apply", 0, () -> y.apply(99, 99));
        Expect.is("WARNINGS", 0, () -> y.count(7));
        Expect.is("PAYMENTS", 2, () -> y.count(8));
        Expect.noIndex("told(0, 0)", () -> y.told(0, 0));
        Expect.noIndex("paid(2)", () -> y.paid(2));
    }

    private static void paidEdges() {
        Expect.sentence("paid: The amount of PAYMENT k of the latest apply(). IndexOutOfBoundsException: there is none");
        MarloweHost x = telling();
        for (int k : new int[] {-1, 3, 100, Integer.MIN_VALUE, Integer.MAX_VALUE}) {
            Expect.noIndex("paid(" + k + ")", () -> x.paid(k));
        }
        Expect.noIndex("without an apply()", () -> new MarloweHost().paid(0));
        MarloweHost y = Expect.host("assert false close");
        y.apply(0, 0);
        Expect.noIndex("a WARNING is no PAYMENT", () -> y.paid(0));
        // as many as there can be in 100 levels
        MarloweHost z = Expect.host("when [deposit a b t 97 " + "pay a to b t 1 ".repeat(97) + "close] 9 close");
        z.wallet(1, 0, 97);
        z.deposit(0, 1, 0, 97);
        Expect.is("apply", 0, () -> z.apply(0, 0));
        Expect.is("PAYMENTS", 97, () -> z.count(8));
        Expect.is("the last one", 1, () -> z.paid(96));
        Expect.is("WALLET", 97, () -> z.state(1, 1, 0));
    }

    private static void stateEdges() {
        Expect.sentence("state: What 0: the ACCOUNT of PARTY a of TOKEN b; 1: the WALLET; 2: .. CHOSEN; 3: .. USED (0 if there is none); 4: the TIME");
        StringBuilder names = new StringBuilder("if false ");
        for (int i = 0; i < 8; i++) {
            names.append("let x").append(i).append(" + balance p").append(i).append(" t").append(i % 4).append(" chosen q").append(i).append(" p0 ");
        }
        MarloweHost x = Expect.host(names + "close when [deposit p7 p6 t3 4 when [choice q7 p0 [-9 -9] let x7 -8 when [] 99 close] 90 close] 80 close");
        x.wallet(6, 3, 10);
        x.deposit(7, 6, 3, 4);
        x.choose(7, -9);
        Expect.is("apply", 0, () -> x.apply(5, 6));
        for (int a = 0; a < 8; a++) {
            for (int b = 0; b < 4; b++) {
                int i = a;
                int k = b;
                Expect.is("ACCOUNT", i == 7 && k == 3 ? 4 : 0, () -> x.state(0, i, k));
                Expect.is("WALLET", i == 6 && k == 3 ? 6 : 0, () -> x.state(1, i, k));
                Expect.is("CHOSEN", i == 7 ? -9 : 0, () -> x.state(2, i, k));
                Expect.is("USED", i == 7 ? -8 : 0, () -> x.state(3, i, k));
                Expect.is("TIME", 5, () -> x.state(4, i, k));
            }
        }
        // numbers that THE TEXT has no names for
        MarloweHost y = Expect.host("close");
        for (int what = 0; what <= 4; what++) {
            int w = what;
            Expect.is("state(" + w + ", 7, 3)", 0, () -> y.state(w, 7, 3));
        }
    }

    private static void stateRefused() {
        Expect.sentence("state: IllegalArgumentException for others, or a not 0..7, b not 0..3 (both always looked at)");
        for (MarloweHost x : new MarloweHost[] {new MarloweHost(), Expect.host("close")}) {
            for (int what = 0; what <= 4; what++) {
                int w = what;
                for (int a : NO_PARTIES) {
                    Expect.noArgument("state(" + w + ", " + a + ", 0)", () -> x.state(w, a, 0));
                }
                for (int b : NO_TOKENS) {
                    Expect.noArgument("state(" + w + ", 0, " + b + ")", () -> x.state(w, 0, b));
                }
            }
            for (int what : new int[] {-1, 5, Integer.MIN_VALUE, Integer.MAX_VALUE}) {
                Expect.noArgument("state(" + what + ", 0, 0)", () -> x.state(what, 0, 0));
            }
        }
    }

    private static void stateWithoutContract() {
        Expect.sentence("state: IllegalStateException: there is no contract (but 1)");
        MarloweHost x = telling();
        Expect.read(x, "close close");
        for (MarloweHost y : new MarloweHost[] {x, new MarloweHost()}) {
            for (int what : new int[] {0, 2, 3, 4}) {
                Expect.noState("state(" + what + ", 0, 0)", () -> y.state(what, 0, 0));
            }
        }
        Expect.is("the WALLET", 4, () -> x.state(1, 1, 1));
        Expect.is("the WALLET", 0, () -> new MarloweHost().state(1, 7, 3));
    }

    private static void analyseEdges() {
        Expect.sentence("analyse: CLEAN, FOUND, FUEL, OUTSIDE. (The INPUTS stay. OUTSIDE: no STEPS were looked at, none FOUND; end() leaves ..)");
        MarloweHost x = Expect.host("when [notify true assert false close] 9 close");
        for (int i = 0; i < 16; i++) {
            x.remind();
        }
        Expect.is("FOUND", 1, x::analyse);
        Expect.is("INPUTS", 16, () -> x.count(6));
        Expect.is("the STATE stays", 0, () -> x.count(0));
        Expect.is("once more", 1, x::analyse);
        MarloweHost y = Expect.host("when [choice q a [1 4] assert < chosen q a 3 close] 9 close");
        for (int i = 0; i < 3; i++) {
            Expect.is("each time the same", 1, y::analyse);
            Expect.is("each time the same", 3, () -> y.step(0, 1));
            Expect.is("each time the same", 3, () -> y.count(9));
        }
        Expect.read(x, "let x start close");
        Expect.is("end() leaves the STEPS looked at", 1, () -> x.count(9));
        Expect.is("end() leaves those FOUND", 1, () -> x.count(10));
        Expect.is("end() leaves them", 3, () -> x.step(0, 0));
        Expect.read(x, "let x");
        Expect.is("a WRONG TEXT leaves them, too", 1, () -> x.step(0, 2));
        Expect.read(x, "let x start close");
        Expect.is("OUTSIDE", 3, x::analyse);
        Expect.is("no STEPS were looked at", 0, () -> x.count(9));
        Expect.is("none FOUND", 0, () -> x.count(10));
        Expect.noIndex("none FOUND", () -> x.step(0, 0));
        Expect.read(x, "assert false close");
        Expect.is("FOUND", 1, x::analyse);
        Expect.read(x, "close");
        Expect.is("CLEAN", 0, x::analyse);
        Expect.is("no STEPS were looked at", 0, () -> x.count(9));
        Expect.is("none FOUND", 0, () -> x.count(10));
        Expect.same("the constants", "0 1 2 3",
                MarloweHost.CLEAN + " " + MarloweHost.FOUND + " " + MarloweHost.FUEL + " " + MarloweHost.OUTSIDE);
    }

    private static void analyseRefused() {
        Expect.sentence("analyse: IllegalStateException: there is no contract");
        MarloweHost x = Expect.host("when [] 9 assert false close");
        Expect.is("FOUND", 1, x::analyse);
        Expect.read(x, "?");
        Expect.noState("analyse", x::analyse);
        Expect.is("what it told stays", 1, () -> x.count(9));
        Expect.is("what it told stays", 9, () -> x.step(0, 1));
        Expect.noState("of a new object", () -> new MarloweHost().analyse());
    }

    private static void stepEdges() {
        Expect.sentence("step: STEP k of what the latest analyse() FOUND .. IndexOutOfBoundsException: there is none");
        MarloweHost x = Expect.host("let x 1 when [deposit a b t 5 when [choice q a [6 7] when [notify = chosen q a 7 when [] 8 assert false close] 7 close] 7 "
                + "close] 7 close");
        Expect.is("FOUND", 1, x::analyse);
        Expect.is("STEPS", 5, () -> x.count(10));
        long[][] due = {{0, 0, -1}, {1, 5, 3}, {2, 7, 6}, {3, 0, 8}, {4, 8, -1}};
        for (int i = 0; i < due.length; i++) {
            int k = i;
            for (int what = 0; what < 3; what++) {
                int w = what;
                Expect.is("step(" + k + ", " + w + ")", due[k][w], () -> x.step(k, w));
            }
        }
        for (int k : new int[] {-1, 5, 100, 5000, Integer.MIN_VALUE, Integer.MAX_VALUE}) {
            for (int what = 0; what < 3; what++) {
                int w = what;
                Expect.noIndex("step(" + k + ", " + w + ")", () -> x.step(k, w));
            }
        }
        Expect.noIndex("without an analyse()", () -> new MarloweHost().step(0, 0));
    }

    private static void stepRefused() {
        Expect.sentence("step: IllegalArgumentException for others");
        MarloweHost x = Expect.host("assert false close");
        x.analyse();
        for (int what : new int[] {-1, 3, Integer.MIN_VALUE, Integer.MAX_VALUE}) {
            Expect.noArgument("step(0, " + what + ")", () -> x.step(0, what));
            Expect.noArgument("step(1, " + what + ")", () -> x.step(1, what));
            Expect.noArgument("without an analyse()", () -> new MarloweHost().step(0, what));
        }
    }

    private static void countEdges() {
        Expect.sentence("count: What 0: the NODE that is left ..; 1: NODES; 2, 3, 4, 5: PARTIES, TOKENS, CHOICES, X of THE TEXT; 6: INPUTS ..");
        MarloweHost x = telling();
        x.remind();
        x.choose(0, 0);
        x.analyse();
        int[] due = {18, 22, 3, 2, 0, 0, 2, 2, 3, 1, 0};
        for (int what = 0; what < due.length; what++) {
            int w = what;
            Expect.is("count(" + w + ")", due[w], () -> x.count(w));
        }
        MarloweHost y = Expect.host("let x chosen q c let y chosen r c let z balance d u close");
        int[] others = {0, 7, 2, 1, 2, 3, 0, 0, 0, 0, 0};
        for (int what = 0; what < others.length; what++) {
            int w = what;
            Expect.is("count(" + w + ")", others[w], () -> y.count(w));
        }
    }

    private static void countWithoutContract() {
        Expect.sentence("count: What 0: the NODE that is left (-1 without a contract) .. (1 to 5: 0 without a contract)");
        MarloweHost x = Expect.host("assert false let x chosen q c let y chosen r c let z balance d u pay a to b t 1 close");
        x.apply(0, 0);
        x.analyse();
        Expect.read(x, "assert false let x chosen q c let y chosen r c let z balance d u pay a to b t 1 close close");
        x.remind();
        int[] due = {-1, 0, 0, 0, 0, 0, 1, 2, 0, 0, 0};
        for (int what = 0; what < due.length; what++) {
            int w = what;
            Expect.is("count(" + w + ")", due[w], () -> x.count(w));
        }
    }

    private static void countRefused() {
        Expect.sentence("count: IllegalArgumentException for others");
        for (MarloweHost x : new MarloweHost[] {new MarloweHost(), Expect.host("close")}) {
            for (int what : new int[] {-1, 11, 12, 100, Integer.MIN_VALUE, Integer.MAX_VALUE}) {
                Expect.noArgument("count(" + what + ")", () -> x.count(what));
            }
        }
    }
}
