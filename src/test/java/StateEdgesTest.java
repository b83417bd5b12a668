/** Terms 2: for each sentence that names a boundary case a test of its own. */
public final class StateEdgesTest {
    /** 2 ** 62 and 2 ** 61 as values. */
    private static final String MOST = "* 2147483648 2147483648";
    private static final String HALF = "* 2147483648 1073741824";
    private static final String LARGE = "* 99999999999999999 99999999999999999";
    private static final long LARGEST = 1L << 62;

    public static void main(String[] args) {
        largeSums();
        largeDifferences();
        largeProducts();
        notLarge();
        largeStart();
        largeEnd();
        largeAccountByDeposit();
        largeAccountByPay();
        largeOnTheWay();
        divisions();
        noneChosenOrUsed();
        balances();
        intervalOfStart();
        condReckonsOne();
        andOrReckonBoth();
        madeOfNought();
        closeInOrder();
        closeOfAll();
        closeOfNothing();
        payNotAboveNought();
        payLessThanDue();
        payOfNothing();
        payInto();
        ifs();
        whenStays();
        whenPasses();
        whenAmbiguous();
        letAgain();
        asserts();
        depositFits();
        depositReckonsOnlyTheSame();
        depositNotAboveNought();
        choiceFits();
        notifyFits();
        firstThatFits();
        noMatch();
        highBelowLow();
        highBelowTime();
        lowAtLeastTime();
        reducedBehindEachInput();
        useless();
        poorWallet();
        poorBeforeLarge();
        largeWallet();
        errorChangesNothing();
        walletsInTheEnd();
        Expect.finish();
    }

    /** What a value is in a new contract, or the ERROR as -1000 less it. */
    private static void reckons(String text, long due) {
        MarloweHost x = Expect.host("let x " + text + " close");
        int error = x.apply(0, 0);
        Expect.is(text, due, () -> error == 0 ? x.state(3, 0, 0) : -1000 - error);
    }

    private static void isLarge(String text) {
        reckons(text, -1006);
    }

    private static void largeSums() {
        Expect.sentence("what an operator .. tells .. beyond 2 ** 62 in size: LARGE: +");
        reckons("+ " + HALF + " " + HALF, LARGEST);
        reckons("+ " + MOST + " 0", LARGEST);
        isLarge("+ " + MOST + " 1");
        isLarge("+ 1 " + MOST);
        reckons("+ neg " + MOST + " 0", -LARGEST);
        isLarge("+ neg " + MOST + " -1");
        reckons("+ " + MOST + " -1", LARGEST - 1);
        // 2 ** 63 and its negative wrap around
        isLarge("+ " + MOST + " " + MOST);
        isLarge("+ neg " + MOST + " neg " + MOST);
    }

    private static void largeDifferences() {
        Expect.sentence("what an operator .. tells .. beyond 2 ** 62 in size: LARGE: -");
        reckons("- 0 " + MOST, -LARGEST);
        isLarge("- -1 " + MOST);
        reckons("- " + MOST + " 0", LARGEST);
        isLarge("- " + MOST + " -1");
        reckons("- neg " + MOST + " 0", -LARGEST);
        isLarge("- neg " + MOST + " 1");
        isLarge("- " + MOST + " neg " + MOST);
        isLarge("- neg " + MOST + " " + MOST);
        reckons("- " + MOST + " " + MOST, 0);
    }

    private static void largeProducts() {
        Expect.sentence("what an operator .. tells .. beyond 2 ** 62 in size: LARGE: *");
        reckons("* 2147483648 2147483648", LARGEST);
        reckons("* -2147483648 2147483648", -LARGEST);
        reckons("* 2147483648 -2147483648", -LARGEST);
        reckons("* -2147483648 -2147483648", LARGEST);
        isLarge("* 2147483648 2147483649");
        isLarge("* -2147483649 2147483648");
        isLarge("* 2147483649 -2147483648");
        isLarge("* -2147483648 -2147483649");
        reckons("* 1 " + MOST, LARGEST);
        reckons("* -1 " + MOST, -LARGEST);
        reckons("* " + MOST + " -1", -LARGEST);
        isLarge("* 2 " + MOST);
        isLarge("* " + MOST + " -2");
        isLarge("* " + MOST + " " + MOST);
        reckons("* 46 99999999999999999", 4599999999999999954L);
        isLarge("* 47 99999999999999999");
        // these wrap around to 0, 1 and below 0
        isLarge("* 4294967296 4294967296");
        isLarge("* 4294967297 4294967297");
        isLarge("* 3037000500 3037000500");
        isLarge("* 4294967296 2147483648");
        isLarge(LARGE);
        reckons("* 0 " + MOST, 0);
        reckons("* " + MOST + " 0", 0);
    }

    private static void notLarge() {
        Expect.sentence("what an operator .. tells .. beyond 2 ** 62 in size: LARGE: neg, /");
        reckons("neg " + MOST, -LARGEST);
        reckons("neg neg " + MOST, LARGEST);
        reckons("/ " + MOST + " 1", LARGEST);
        reckons("/ " + MOST + " -1", -LARGEST);
        reckons("/ neg " + MOST + " -1", LARGEST);
        reckons("/ " + MOST + " " + MOST, 1);
        reckons("/ 1 " + MOST, 0);
    }

    private static int applied(String text, long low, long high) {
        return Expect.host(text).apply(low, high);
    }

    private static void largeStart() {
        Expect.sentence("what .. start .. tells .. beyond 2 ** 62 in size: LARGE");
        Expect.is("start of 2 ** 62", 0, () -> applied("let x start close", LARGEST, Long.MAX_VALUE));
        Expect.is("start of 2 ** 62 + 1", 6, () -> applied("let x start close", LARGEST + 1, Long.MAX_VALUE));
        Expect.is("start of the most", 6, () -> applied("let x start close", Long.MAX_VALUE, Long.MAX_VALUE));
        Expect.is("start that nobody asks for", 0, () -> applied("let x 1 close", Long.MAX_VALUE, Long.MAX_VALUE));
        // low is at least the TIME before it is asked for
        Expect.is("start of the least", 0, () -> applied("let x start close", Long.MIN_VALUE, 0));
    }

    private static void largeEnd() {
        Expect.sentence("what .. end tells .. beyond 2 ** 62 in size: LARGE");
        Expect.is("end of 2 ** 62", 0, () -> applied("let x end close", 0, LARGEST));
        Expect.is("end of 2 ** 62 + 1", 6, () -> applied("let x end close", 0, LARGEST + 1));
        Expect.is("end of the most", 6, () -> applied("let x end close", 0, Long.MAX_VALUE));
        Expect.is("end that nobody asks for", 0, () -> applied("let x start close", 0, Long.MAX_VALUE));
    }

    /** whens with a deposit each, by b into a's ACCOUNT, and a rest behind the last one. */
    private static String deposits(String rest, String... values) {
        StringBuilder text = new StringBuilder();
        for (String value : values) {
            text.append("when [deposit a b t ").append(value).append(' ');
        }
        text.append(rest);
        for (int i = 0; i < values.length; i++) {
            text.append("] 90 close");
        }
        return text.toString();
    }

    private static int deposit(MarloweHost x, long amount) {
        if (amount <= 1L << 61) {
            x.wallet(1, 0, amount);
        }
        x.deposit(0, 1, 0, amount);
        return x.apply(0, 0);
    }

    /** b's WALLET gets 2 ** 62, more than wallet() can give it. */
    private static MarloweHost rich() {
        MarloweHost x = Expect.host(deposits("pay a to b t " + MOST + " close", HALF, HALF));
        Expect.is("a deposit of 2 ** 61", 0, () -> deposit(x, 1L << 61));
        Expect.is("a deposit of 2 ** 61", 0, () -> deposit(x, 1L << 61));
        Expect.is("WALLET of b", LARGEST, () -> x.state(1, 1, 0));
        return x;
    }

    private static void largeAccountByDeposit() {
        Expect.sentence("what .. an ACCOUNT has, beyond 2 ** 62 in size: LARGE: deposit");
        MarloweHost x = Expect.host(deposits("close", HALF, HALF, "1"));
        Expect.is("a deposit of 2 ** 61", 0, () -> deposit(x, 1L << 61));
        Expect.is("a deposit of 2 ** 61", 0, () -> deposit(x, 1L << 61));
        Expect.is("ACCOUNT", LARGEST, () -> x.state(0, 0, 0));
        Expect.is("a deposit of 1 more", 6, () -> deposit(x, 1));
        Expect.is("ACCOUNT", LARGEST, () -> x.state(0, 0, 0));
        MarloweHost y = rich();
        Expect.read(y, deposits("when [] 99 close", MOST));
        Expect.is("a deposit of 2 ** 62", 0, () -> deposit(y, LARGEST));
        Expect.is("ACCOUNT", LARGEST, () -> y.state(0, 0, 0));
        // 2 ** 62 to 2 ** 62 wraps around; PARTY 1 is the rich one, PARTY 2 deposits before
        MarloweHost z = rich();
        Expect.read(z, "if false pay a to b t 1 close when [deposit a c t " + HALF + " when [deposit a c t " + HALF + " when [deposit a b t " + MOST
                + " close] 90 close] 90 close] 90 close");
        for (int i = 0; i < 2; i++) {
            z.wallet(2, 0, 1L << 61);
            z.deposit(0, 2, 0, 1L << 61);
            Expect.is("a deposit of 2 ** 61", 0, () -> z.apply(0, 0));
        }
        z.deposit(0, 1, 0, LARGEST);
        Expect.is("a deposit of 2 ** 62 to 2 ** 62", 6, () -> z.apply(0, 0));
    }

    private static void largeAccountByPay() {
        Expect.sentence("what .. an ACCOUNT has, beyond 2 ** 62 in size: LARGE: pay into");
        // c has 1 or 0, then all of a's 2 ** 62 or one less goes into it
        String rest = "when [notify true pay a into c t " + MOST + " when [] 99 close choice q a [1 1] pay a into c t - " + MOST
                + " 1 when [] 99 close] 98 close";
        String text = deposits("when [deposit c b t 1 " + rest + "] 97 close", HALF, HALF);
        MarloweHost x = Expect.host(text);
        deposit(x, 1L << 61);
        deposit(x, 1L << 61);
        x.wallet(1, 0, 1);
        x.deposit(2, 1, 0, 1);
        Expect.is("a deposit of 1 for c", 0, () -> x.apply(0, 0));
        x.remind();
        Expect.is("2 ** 62 to 1", 6, () -> x.apply(0, 0));
        Expect.is("ACCOUNT of c", 1, () -> x.state(0, 2, 0));
        x.choose(0, 1);
        Expect.is("2 ** 62 - 1 to 1", 0, () -> x.apply(0, 0));
        Expect.is("ACCOUNT of c", LARGEST, () -> x.state(0, 2, 0));
        Expect.is("ACCOUNT of a", 1, () -> x.state(0, 0, 0));
        // into its own ACCOUNT it gets no larger
        MarloweHost y = Expect.host(deposits("pay a into a t " + MOST + " when [] 99 close", HALF, HALF));
        deposit(y, 1L << 61);
        Expect.is("into its own ACCOUNT", 0, () -> deposit(y, 1L << 61));
        Expect.is("ACCOUNT", LARGEST, () -> y.state(0, 0, 0));
        // 2 ** 62 to 2 ** 62 wraps around
        MarloweHost z = Expect.host(deposits("when [deposit c b t " + HALF + " when [deposit c b t " + HALF
                + " pay a into c t " + MOST + " close] 99 close] 98 close", HALF, HALF));
        deposit(z, 1L << 61);
        deposit(z, 1L << 61);
        z.wallet(1, 0, 1L << 61);
        z.deposit(2, 1, 0, 1L << 61);
        Expect.is("a deposit of 2 ** 61 for c", 0, () -> z.apply(0, 0));
        z.wallet(1, 0, 1L << 61);
        z.deposit(2, 1, 0, 1L << 61);
        Expect.is("2 ** 62 to 2 ** 62", 6, () -> z.apply(0, 0));
    }

    private static void largeOnTheWay() {
        Expect.sentence("what an operator .. tells .. beyond 2 ** 62 in size: LARGE");
        isLarge("* 0 " + LARGE);
        isLarge("/ 1 " + LARGE);
        isLarge("- + " + MOST + " 1 1");
        isLarge("neg " + LARGE);
        isLarge("cond = " + LARGE + " " + LARGE + " 1 1");
        Expect.is("an if", 6, () -> applied("if = 0 " + LARGE + " close close", 0, 0));
        Expect.is("an assert", 6, () -> applied("assert not = 0 " + LARGE + " close", 0, 0));
        Expect.is("a pay", 6, () -> applied("pay a to b t " + LARGE + " close", 0, 0));
        Expect.is("a pay below 0", 6, () -> applied("pay a to b t neg " + LARGE + " close", 0, 0));
        Expect.is("a let", 6, () -> applied("let x " + LARGE + " close", 0, 0));
    }

    private static void divisions() {
        Expect.sentence("\"/\" is cut towards 0, by 0: 0");
        long[][] due = {{7, 2, 3}, {-7, 2, -3}, {7, -2, -3}, {-7, -2, 3}, {1, 2, 0}, {-1, 2, 0}, {6, 3, 2}, {-6, 3, -2}, {7, 0, 0}, {-7, 0, 0},
            {0, 0, 0}, {0, 5, 0}};
        for (long[] row : due) {
            reckons("/ " + row[0] + " " + row[1], row[2]);
        }
        reckons("/ " + MOST + " 0", 0);
        isLarge("/ " + LARGE + " 0");
    }

    private static void noneChosenOrUsed() {
        Expect.sentence("chosen, use: 0 if there is none");
        reckons("chosen q a", 0);
        reckons("use y", 0);
        reckons("use x", 0);
        reckons("+ 5 + chosen q a use y", 5);
    }

    private static void balances() {
        Expect.sentence("balance: what the ACCOUNT has");
        MarloweHost x = Expect.host("let u balance a t when [deposit a b t 5 let v balance a t pay a to b t 2 let w balance a t let z balance b t "
                + "let y balance a s when [] 99 close] 90 close");
        x.wallet(1, 0, 5);
        x.deposit(0, 1, 0, 5);
        Expect.is("apply", 0, () -> x.apply(0, 0));
        long[] due = {0, 5, 3, 0, 0};
        for (int i = 0; i < due.length; i++) {
            int k = i;
            Expect.is("X " + k, due[k], () -> x.state(3, k, 0));
        }
    }

    private static void intervalOfStart() {
        Expect.sentence("start, end: of the interval");
        MarloweHost x = Expect.host("let s start let e end when [notify true let u start let v end when [] 99 close] 90 close");
        x.remind();
        Expect.is("apply", 0, () -> x.apply(3, 8));
        long[] due = {3, 8, 3, 8};
        for (int i = 0; i < due.length; i++) {
            int k = i;
            Expect.is("X " + k, due[k], () -> x.state(3, k, 0));
        }
    }

    private static void condReckonsOne() {
        Expect.sentence("cond: V by O (just the one that is needed is reckoned");
        reckons("cond true 1 2", 1);
        reckons("cond false 1 2", 2);
        reckons("cond true 1 " + LARGE, 1);
        reckons("cond false " + LARGE + " 2", 2);
        isLarge("cond true " + LARGE + " 2");
        isLarge("cond false 1 " + LARGE);
        isLarge("cond = 0 " + LARGE + " 1 2");
    }

    private static void andOrReckonBoth() {
        Expect.sentence("and, or reckon both");
        String large = "= 0 " + LARGE;
        isLarge("cond and false " + large + " 1 2");
        isLarge("cond and " + large + " false 1 2");
        isLarge("cond or true " + large + " 1 2");
        isLarge("cond or " + large + " true 1 2");
        String[] truths = {"false", "true"};
        for (int i = 0; i < 4; i++) {
            String both = truths[i / 2] + " " + truths[i % 2];
            reckons("cond and " + both + " 1 0", i == 3 ? 1 : 0);
            reckons("cond or " + both + " 1 0", i == 0 ? 0 : 1);
        }
    }

    private static void madeOfNought() {
        Expect.sentence("made: whether there is a CHOSEN one");
        MarloweHost x = Expect.host("let u cond made q a 1 2 when [choice q a [0 0] let v cond made q a 1 2 let w cond made q b 1 2 "
                + "let y cond made r a 1 2 when [] 99 close] 90 close");
        x.choose(0, 0);
        Expect.is("apply", 0, () -> x.apply(0, 0));
        long[] due = {2, 1, 2, 2};
        for (int i = 0; i < due.length; i++) {
            int k = i;
            Expect.is("X " + k, due[k], () -> x.state(3, k, 0));
        }
    }

    private static void payment(MarloweHost x, int k, int from, int to, int token, long amount) {
        Expect.is("the ACCOUNT's PARTY of PAYMENT " + k, from, () -> x.told(2, k));
        Expect.is("to which PARTY PAYMENT " + k, to, () -> x.told(3, k));
        Expect.is("the TOKEN of PAYMENT " + k, token, () -> x.told(4, k));
        Expect.is("the amount of PAYMENT " + k, amount, () -> x.paid(k));
    }

    private static void warning(MarloweHost x, int k, int what, int node) {
        Expect.is("WARNING " + k, what, () -> x.told(0, k));
        Expect.is("the NODE of WARNING " + k, node, () -> x.told(1, k));
    }

    private static void counted(MarloweHost x, int warnings, int payments) {
        Expect.is("WARNINGS", warnings, () -> x.count(7));
        Expect.is("PAYMENTS", payments, () -> x.count(8));
    }

    /** The last PARTY and TOKEN, the first ones, and the order of both, filled by PARTY 1 in the worst order. */
    private static void closeInOrder() {
        Expect.sentence("close: the first ACCOUNT (by PARTY, then TOKEN) that has something: a PAYMENT of it all to the PARTY");
        int[][] cells = {{7, 3}, {7, 0}, {0, 3}, {3, 1}, {0, 0}, {3, 0}};
        StringBuilder text = new StringBuilder("if false pay p0 to p1 t0 1 pay p2 to p3 t1 1 pay p4 to p5 t2 1 pay p6 to p7 t3 1 close ");
        MarloweHost x = new MarloweHost();
        for (int i = 0; i < cells.length; i++) {
            text.append("when [deposit p").append(cells[i][0]).append(" p1 t").append(cells[i][1]).append(' ').append(i + 1).append(' ');
        }
        text.append("close").append("] 90 close".repeat(cells.length));
        Expect.read(x, text.toString());
        for (int i = 0; i < cells.length; i++) {
            x.wallet(1, cells[i][1], 20);
            x.deposit(cells[i][0], 1, cells[i][1], i + 1);
        }
        Expect.is("apply", 0, () -> x.apply(0, 0));
        counted(x, 0, 6);
        payment(x, 0, 0, 0, 0, 5);
        payment(x, 1, 0, 0, 3, 3);
        payment(x, 2, 3, 3, 0, 6);
        payment(x, 3, 3, 3, 1, 4);
        payment(x, 4, 7, 7, 0, 2);
        payment(x, 5, 7, 7, 3, 1);
        Expect.is("WALLET of the last one", 1, () -> x.state(1, 7, 3));
        Expect.is("ACCOUNT of the last one", 0, () -> x.state(0, 7, 3));
    }

    /** All 32 ACCOUNTS have something; it takes two TRANSACTIONS of 16 INPUTS. */
    private static void closeOfAll() {
        Expect.sentence("REDUCING .. as long as can be: close: the first ACCOUNT (by PARTY, then TOKEN) that has something");
        StringBuilder text = new StringBuilder();
        for (int cell = 0; cell < 32; cell++) {
            text.append("when [deposit p").append(cell / 4).append(" p").append((cell / 4 + 1) % 8).append(" t").append(cell % 4).append(' ')
                    .append(cell + 1).append(' ');
        }
        text.append("when [notify true ").append("let x 1 ".repeat(60)).append("close] 90 close").append("] 90 close".repeat(32));
        MarloweHost x = Expect.host(text.toString());
        // PARTIES are numbered p0, p1, .., as each one deposits for the one before it
        for (int cell = 0; cell < 32; cell++) {
            x.wallet((cell / 4 + 1) % 8, cell % 4, cell + 1);
            x.deposit(cell / 4, (cell / 4 + 1) % 8, cell % 4, cell + 1);
            if (cell % 16 == 15) {
                Expect.is("apply", 0, () -> x.apply(0, 0));
            }
        }
        for (int cell = 0; cell < 32; cell++) {
            int k = cell;
            Expect.is("ACCOUNT", k + 1, () -> x.state(0, k / 4, k % 4));
            Expect.is("WALLET", 0, () -> x.state(1, k / 4, k % 4));
        }
        x.remind();
        Expect.is("apply", 0, () -> x.apply(0, 0));
        counted(x, 59, 32);
        for (int cell = 0; cell < 32; cell++) {
            int k = cell;
            payment(x, k, k / 4, k / 4, k % 4, k + 1);
            Expect.is("ACCOUNT", 0, () -> x.state(0, k / 4, k % 4));
            Expect.is("WALLET", k + 1, () -> x.state(1, k / 4, k % 4));
        }
    }

    private static void closeOfNothing() {
        Expect.sentence("close: .. if there is none it stays");
        MarloweHost x = Expect.host("close");
        Expect.is("apply", 5, () -> x.apply(0, 0));
        Expect.is("NODE", 0, () -> x.count(0));
        MarloweHost y = Expect.host("let x 1 close");
        Expect.is("apply", 0, () -> y.apply(0, 0));
        counted(y, 0, 0);
        Expect.is("NODE", 2, () -> y.count(0));
        Expect.is("apply", 5, () -> y.apply(0, 0));
    }

    /** a's ACCOUNT has 5, and then comes the rest, from NODE 3 on. */
    private static MarloweHost five(String rest) {
        MarloweHost x = Expect.host("when [deposit a b t 5 " + rest + "] 90 close");
        x.wallet(1, 0, 5);
        x.deposit(0, 1, 0, 5);
        Expect.is("apply", 0, () -> x.apply(0, 0));
        return x;
    }

    private static void payNotAboveNought() {
        Expect.sentence("pay: V not above 0: WARNING 2, nothing is paid");
        MarloweHost x = five("pay a to c t 0 pay a to c t -1 pay a into c t 0 pay a into c t neg " + MOST + " when [] 99 close");
        counted(x, 4, 0);
        for (int k = 0; k < 4; k++) {
            warning(x, k, 2, 3 + 2 * k);
        }
        Expect.is("ACCOUNT of a", 5, () -> x.state(0, 0, 0));
        Expect.is("ACCOUNT of c", 0, () -> x.state(0, 2, 0));
        MarloweHost y = five("pay a to c t 1 when [] 99 close");
        counted(y, 0, 1);
        payment(y, 0, 0, 2, 0, 1);
    }

    private static void payLessThanDue() {
        Expect.sentence("pay: .. else what there is of it in the first P's ACCOUNT is paid (less than V: WARNING 3)");
        MarloweHost x = five("pay a to c t 5 when [] 99 close");
        counted(x, 0, 1);
        payment(x, 0, 0, 2, 0, 5);
        MarloweHost y = five("pay a to c t 6 when [] 99 close");
        counted(y, 1, 1);
        warning(y, 0, 3, 3);
        payment(y, 0, 0, 2, 0, 5);
        MarloweHost z = five("pay a to c t 4 pay a to c t 2 when [] 99 close");
        counted(z, 1, 2);
        warning(z, 0, 3, 5);
        payment(z, 0, 0, 2, 0, 4);
        payment(z, 1, 0, 2, 0, 1);
        MarloweHost w = five("pay a to c t " + MOST + " when [] 99 close");
        counted(w, 1, 1);
        payment(w, 0, 0, 2, 0, 5);
        Expect.is("WALLET of c", 5, () -> w.state(1, 2, 0));
    }

    private static void payOfNothing() {
        Expect.sentence("pay: .. to a PARTY (a PAYMENT, if it is not 0)");
        MarloweHost x = five("pay b to c t 1 pay a to c u 1 when [] 99 close");
        counted(x, 2, 0);
        warning(x, 0, 3, 3);
        warning(x, 1, 3, 5);
        MarloweHost y = five("pay a to a t 2 when [] 99 close");
        counted(y, 0, 1);
        payment(y, 0, 0, 0, 0, 2);
        Expect.is("ACCOUNT of a", 3, () -> y.state(0, 0, 0));
        Expect.is("WALLET of a", 2, () -> y.state(1, 0, 0));
    }

    private static void payInto() {
        Expect.sentence("pay: .. or into an ACCOUNT");
        MarloweHost x = five("pay a into c t 2 pay a into c t 4 pay a into c t 1 pay c into c t 5 when [] 99 close");
        counted(x, 2, 0);
        warning(x, 0, 3, 5);
        warning(x, 1, 3, 7);
        Expect.is("ACCOUNT of a", 0, () -> x.state(0, 0, 0));
        Expect.is("ACCOUNT of c", 5, () -> x.state(0, 2, 0));
        Expect.is("WALLET of c", 0, () -> x.state(1, 2, 0));
        MarloweHost y = five("pay c into d t 1 pay c into c t 1 when [] 99 close");
        counted(y, 2, 0);
        Expect.is("ACCOUNT of d", 0, () -> y.state(0, 3, 0));
    }

    private static void ifs() {
        Expect.sentence("if: the first C if O is true, else the second one");
        MarloweHost x = Expect.host("if true when [] 9 close when [] 9 close");
        x.apply(0, 0);
        Expect.is("NODE", 2, () -> x.count(0));
        MarloweHost y = Expect.host("if false when [] 9 close when [] 9 close");
        y.apply(0, 0);
        Expect.is("NODE", 4, () -> y.count(0));
        MarloweHost z = Expect.host("if false let x " + LARGE + " close when [] 9 close");
        Expect.is("the other C is not reckoned", 0, () -> z.apply(0, 0));
    }

    private static void whenStays() {
        Expect.sentence("when: high below N: it stays");
        MarloweHost x = Expect.host("let x 1 when [] 10 close");
        Expect.is("high of N - 1", 0, () -> x.apply(0, 9));
        Expect.is("NODE", 2, () -> x.count(0));
        Expect.is("low and high of N - 1", 5, () -> x.apply(9, 9));
        Expect.is("low below 0", 5, () -> x.apply(Long.MIN_VALUE, 9));
        MarloweHost y = Expect.host("let x 1 when [] 99999999999999999 close");
        Expect.is("apply", 0, () -> y.apply(99999999999999998L, 99999999999999998L));
        Expect.is("NODE", 2, () -> y.count(0));
    }

    private static void whenPasses() {
        Expect.sentence("when: .. N not above low: the last C");
        Expect.is("low of N", 0, () -> applied("when [notify true assert false close] 10 close", 10, 12));
        Expect.is("low above N", 0, () -> applied("when [] 10 close", 11, 12));
        Expect.is("N of 0", 0, () -> applied("when [] 0 close", 0, 0));
        Expect.is("N below 0", 0, () -> applied("when [] -5 close", -9, 0));
        MarloweHost x = Expect.host("when [notify true assert false close] 10 when [] 10 when [] 11 close");
        Expect.is("apply", 0, () -> x.apply(10, 10));
        Expect.is("NODE", 7, () -> x.count(0));
        counted(x, 0, 0);
    }

    private static void whenAmbiguous() {
        Expect.sentence("when: .. else AMBIGUOUS; 3 AMBIGUOUS");
        Expect.is("low below N, high of N", 3, () -> applied("when [] 10 close", 9, 10));
        Expect.is("low below N, high above N", 3, () -> applied("when [] 10 close", 9, 11));
        Expect.is("all time", 3, () -> applied("when [] 10 close", Long.MIN_VALUE, Long.MAX_VALUE));
        Expect.is("behind another when", 3, () -> applied("when [] 10 when [] 12 close", 10, 12));
        MarloweHost x = Expect.host("when [notify true close] 10 close");
        x.remind();
        Expect.is("before an INPUT", 3, () -> x.apply(9, 10));
        MarloweHost y = Expect.host("when [notify true when [] 5 close] 10 close");
        y.remind();
        Expect.is("behind an INPUT", 3, () -> y.apply(4, 5));
    }

    private static void letAgain() {
        Expect.sentence("let: V; WARNING 4 if X was USED already; X is that; C");
        MarloweHost x = Expect.host("let x 0 let x 3 let y use x let x + use x 1 when [] 9 let y 0 close");
        Expect.is("apply", 0, () -> x.apply(0, 0));
        counted(x, 2, 0);
        warning(x, 0, 4, 2);
        warning(x, 1, 4, 6);
        Expect.is("x", 4, () -> x.state(3, 0, 0));
        Expect.is("y", 3, () -> x.state(3, 1, 0));
        Expect.is("apply", 0, () -> x.apply(9, 9));
        counted(x, 1, 0);
        warning(x, 0, 4, 11);
        Expect.is("y", 0, () -> x.state(3, 1, 0));
    }

    private static void asserts() {
        Expect.sentence("assert: WARNING 5 if O is false; C");
        MarloweHost x = Expect.host("assert true assert false when [] 9 close");
        Expect.is("apply", 0, () -> x.apply(0, 0));
        counted(x, 1, 0);
        warning(x, 0, 5, 2);
        Expect.is("NODE", 4, () -> x.count(0));
    }

    private static int deposited(String text, int account, int party, int token, long amount) {
        MarloweHost x = Expect.host(text);
        for (int i = 0; i < 8; i++) {
            x.wallet(i, 0, 100);
            x.wallet(i, 1, 100);
        }
        x.deposit(account, party, token, amount);
        return x.apply(0, 0);
    }

    private static void depositFits() {
        Expect.sentence("deposit: the same PARTIES (account's, then depositor's) and TOKEN, and V .. is just the amount");
        String text = "when [deposit a b t 5 close] 9 pay c to a u 1 close";
        Expect.is("it fits", 0, () -> deposited(text, 0, 1, 0, 5));
        Expect.is("another account", 4, () -> deposited(text, 2, 1, 0, 5));
        Expect.is("another depositor", 4, () -> deposited(text, 0, 2, 0, 5));
        Expect.is("the other way round", 4, () -> deposited(text, 1, 0, 0, 5));
        Expect.is("another TOKEN", 4, () -> deposited(text, 0, 1, 1, 5));
        Expect.is("less", 4, () -> deposited(text, 0, 1, 0, 4));
        Expect.is("more", 4, () -> deposited(text, 0, 1, 0, 6));
        Expect.is("the least", 4, () -> deposited(text, 0, 1, 0, Long.MIN_VALUE));
        Expect.is("the most", 4, () -> deposited(text, 0, 1, 0, Long.MAX_VALUE));
        Expect.is("5 and 2 ** 32", 4, () -> deposited(text, 0, 1, 0, 5 + (1L << 32)));
    }

    private static void depositReckonsOnlyTheSame() {
        Expect.sentence("V (reckoned only if those are the same)");
        String text = "when [deposit a a t " + LARGE + " close deposit a b t 5 close deposit a b u " + LARGE + " close deposit b b t " + LARGE
                + " close] 9 close";
        Expect.is("another depositor, TOKEN, account are LARGE", 0, () -> deposited(text, 0, 1, 0, 5));
        Expect.is("the same ones are LARGE", 6, () -> deposited(text, 0, 0, 0, 5));
        Expect.is("the same ones are LARGE", 6, () -> deposited(text, 0, 1, 1, 5));
        Expect.is("the same ones are LARGE", 6, () -> deposited(text, 1, 1, 0, 0));
        Expect.is("behind the one that fits", 0, () -> deposited("when [deposit a b t 5 close deposit a b t " + LARGE + " close] 9 close", 0, 1, 0, 5));
    }

    private static void depositNotAboveNought() {
        Expect.sentence("WARNING 1 if that is not above 0, else the ACCOUNT has it");
        MarloweHost x = Expect.host("when [deposit a b t 0 when [deposit a b t -1 when [deposit a b t 1 when [] 99 close] 90 close] 80 close] 70 close");
        x.wallet(1, 0, 1);
        x.deposit(0, 1, 0, 0);
        x.deposit(0, 1, 0, -1);
        x.deposit(0, 1, 0, 1);
        Expect.is("apply", 0, () -> x.apply(0, 0));
        counted(x, 2, 0);
        warning(x, 0, 1, 1);
        warning(x, 1, 1, 4);
        Expect.is("ACCOUNT of a", 1, () -> x.state(0, 0, 0));
        Expect.is("WALLET of b", 0, () -> x.state(1, 1, 0));
        MarloweHost y = Expect.host("when [deposit a b t neg " + MOST + " when [] 99 close] 70 close");
        y.deposit(0, 1, 0, -LARGEST);
        Expect.is("apply", 0, () -> y.apply(0, 0));
        warning(y, 0, 1, 1);
        Expect.is("WALLET of b", 0, () -> y.state(1, 1, 0));
    }

    private static void choiceFits() {
        Expect.sentence("choice: the same CHOICE, the number within one of the bounds: it is CHOSEN");
        String text = "when [choice q a [1 3 -5 -5 7 7] when [] 90 close choice q b [-99999999999999999 99999999999999999] when [] 90 close] 9 close";
        long[][] due = {{0, 0, 4}, {0, 1, 0}, {0, 3, 0}, {0, 4, 4}, {0, -6, 4}, {0, -5, 0}, {0, -4, 4}, {0, 6, 4}, {0, 7, 0}, {0, 8, 4},
            {0, Long.MIN_VALUE, 4}, {0, Long.MAX_VALUE, 4}, {0, 1 + (1L << 32), 4}, {1, -99999999999999999L, 0}, {1, 99999999999999999L, 0},
            {1, -100000000000000000L, 4}, {1, 100000000000000000L, 4}, {1, Long.MIN_VALUE, 4}, {1, Long.MAX_VALUE, 4}, {2, 1, 4}, {7, 1, 4}};
        for (long[] row : due) {
            MarloweHost x = Expect.host(text);
            x.choose((int) row[0], row[1]);
            Expect.is("CHOICE " + row[0] + ", " + row[1], row[2], () -> x.apply(0, 0));
            Expect.is("CHOSEN", row[2] == 0 ? row[1] : 0, () -> x.state(2, (int) row[0], 0));
        }
        MarloweHost y = Expect.host("when [choice q a [1 3] when [choice q a [0 9] when [] 90 close] 80 close] 70 close");
        y.choose(0, 2);
        y.choose(0, 9);
        Expect.is("CHOSEN twice", 0, () -> y.apply(0, 0));
        Expect.is("the latest one", 9, () -> y.state(2, 0, 0));
    }

    private static void notifyFits() {
        Expect.sentence("notify: O is true");
        MarloweHost x = Expect.host("when [notify false close notify = 1 2 close notify = 1 1 when [] 90 close] 9 close");
        x.remind();
        Expect.is("apply", 0, () -> x.apply(0, 0));
        Expect.is("NODE", 13, () -> x.count(0));
        MarloweHost y = Expect.host("when [notify = 0 " + LARGE + " close notify true close] 9 close");
        y.remind();
        Expect.is("LARGE before it", 6, () -> y.apply(0, 0));
        MarloweHost z = Expect.host("when [notify = 0 " + LARGE + " close choice q a [1 1] close] 9 close");
        z.choose(0, 1);
        Expect.is("O is for notifications only", 0, () -> z.apply(0, 0));
    }

    private static void firstThatFits() {
        Expect.sentence("An INPUT is applied to a when that stays: the first A that fits");
        MarloweHost x = Expect.host("when [" + "notify false close ".repeat(6) + "notify true when [] 90 close notify true close] 9 close");
        x.remind();
        Expect.is("apply", 0, () -> x.apply(0, 0));
        Expect.is("NODE", 21, () -> x.count(0));
        MarloweHost y = Expect.host("when [" + "notify false close ".repeat(7) + "notify true when [] 90 close] 9 close");
        y.remind();
        Expect.is("the eighth A", 0, () -> y.apply(0, 0));
        Expect.is("NODE", 24, () -> y.count(0));
        MarloweHost z = Expect.host("when [choice q a [5 5] close choice q a [1 9] when [] 90 close choice q a [1 9] close] 9 close");
        z.choose(0, 6);
        Expect.is("the second A", 0, () -> z.apply(0, 0));
        Expect.is("NODE", 4, () -> z.count(0));
    }

    private static void noMatch() {
        Expect.sentence("None: NO MATCH; 4 NO MATCH (also where there is no when)");
        MarloweHost x = Expect.host("when [] 9 close");
        x.remind();
        Expect.is("no A", 4, () -> x.apply(0, 0));
        x.remind();
        Expect.is("behind the when", 4, () -> x.apply(9, 9));
        MarloweHost y = Expect.host("close");
        y.remind();
        Expect.is("no when", 4, () -> y.apply(0, 0));
        y.choose(0, 0);
        Expect.is("no when", 4, () -> y.apply(0, 0));
        y.deposit(0, 0, 0, 0);
        Expect.is("no when", 4, () -> y.apply(0, 0));
        MarloweHost z = Expect.host("when [notify true close] 9 close");
        z.remind();
        z.remind();
        Expect.is("no when behind the first INPUT", 4, () -> z.apply(0, 0));
        Expect.is("NODE", 0, () -> z.count(0));
    }

    private static void highBelowLow() {
        Expect.sentence("Its ERROR: 1 high is below low");
        MarloweHost x = Expect.host("let x 1 close");
        Expect.is("one below", 1, () -> x.apply(5, 4));
        Expect.is("below the TIME, too", 1, () -> x.apply(-4, -5));
        Expect.is("as far as can be", 1, () -> x.apply(Long.MAX_VALUE, Long.MIN_VALUE));
        Expect.is("just low", 0, () -> x.apply(4, 4));
    }

    private static void highBelowTime() {
        Expect.sentence("2 high is below the TIME");
        MarloweHost x = Expect.host("let x 1 when [] 10 when [] 20 close");
        Expect.is("one below 0", 2, () -> x.apply(-1, -1));
        Expect.is("the least", 2, () -> x.apply(Long.MIN_VALUE, Long.MIN_VALUE));
        Expect.is("TIME 5", 0, () -> x.apply(5, 6));
        Expect.is("one below 5", 2, () -> x.apply(0, 4));
        Expect.is("5, which is not below", 5, () -> x.apply(0, 5));
        Expect.is("TIME 11", 0, () -> x.apply(11, 11));
        Expect.is("one below 11", 2, () -> x.apply(10, 10));
    }

    private static void lowAtLeastTime() {
        Expect.sentence("then low is at least the TIME, and the TIME is that low");
        MarloweHost x = Expect.host("when [notify true when [notify true let s start when [] 90 close] 80 close] 70 close");
        x.remind();
        Expect.is("apply", 0, () -> x.apply(5, 9));
        Expect.is("TIME", 5, () -> x.state(4, 0, 0));
        x.remind();
        Expect.is("low below the TIME", 0, () -> x.apply(Long.MIN_VALUE, 5));
        Expect.is("TIME", 5, () -> x.state(4, 0, 0));
        Expect.is("start", 5, () -> x.state(3, 0, 0));
        MarloweHost y = Expect.host("when [] 5 when [] 7 close");
        Expect.is("apply", 0, () -> y.apply(5, 6));
        // low is 6 or more, so that N is not above it
        MarloweHost z = Expect.host("when [notify true when [] 5 when [] 50 close] 40 close");
        z.remind();
        Expect.is("apply", 3, () -> z.apply(4, 6));
        Expect.is("behind an ERROR the TIME stays", 0, () -> z.state(4, 0, 0));
        MarloweHost w = Expect.host("let x 1 when [notify true when [] 5 when [] 50 close] 40 close");
        Expect.is("apply", 0, () -> w.apply(5, 5));
        w.remind();
        Expect.is("apply", 0, () -> w.apply(4, 6));
        Expect.is("NODE", 6, () -> w.count(0));
        MarloweHost v = Expect.host("let x 1 close");
        Expect.is("apply", 0, () -> v.apply(Long.MAX_VALUE, Long.MAX_VALUE));
        Expect.is("TIME", Long.MAX_VALUE, () -> v.state(4, 0, 0));
    }

    private static void reducedBehindEachInput() {
        Expect.sentence("It is REDUCED, and behind each INPUT again");
        MarloweHost x = Expect.host("let u 1 when [notify true let v 2 when [notify = use v 2 let w 3 when [] 90 close] 80 close] 70 close");
        x.remind();
        x.remind();
        Expect.is("apply", 0, () -> x.apply(0, 0));
        Expect.is("u", 1, () -> x.state(3, 0, 0));
        Expect.is("v", 2, () -> x.state(3, 1, 0));
        Expect.is("w", 3, () -> x.state(3, 2, 0));
        // the first one that is an ERROR is the ERROR
        MarloweHost y = Expect.host("when [notify true when [] 5 close choice q a [1 1] let x " + LARGE + " close deposit a b t 1 close] 9 close");
        y.remind();
        y.choose(7, 7);
        Expect.is("3 before 4", 3, () -> y.apply(4, 5));
        y.choose(7, 7);
        y.remind();
        Expect.is("4 before 3", 4, () -> y.apply(4, 5));
        y.choose(0, 1);
        y.choose(7, 7);
        Expect.is("6 before 4", 6, () -> y.apply(4, 5));
        y.deposit(0, 1, 0, 1);
        y.choose(7, 7);
        Expect.is("7 before 4", 7, () -> y.apply(4, 5));
    }

    private static void useless() {
        Expect.sentence("5: there were no INPUTS, and nothing was REDUCED");
        MarloweHost x = Expect.host("when [notify true when [] 20 close] 10 close");
        Expect.is("nothing at all", 5, () -> x.apply(2, 3));
        Expect.is("TIME", 0, () -> x.state(4, 0, 0));
        x.remind();
        Expect.is("an INPUT", 0, () -> x.apply(2, 3));
        Expect.is("NODE", 3, () -> x.count(0));
        Expect.is("something is REDUCED", 0, () -> x.apply(20, 20));
        Expect.is("nothing is left", 5, () -> x.apply(20, 20));
        Expect.is("1 comes before", 1, () -> x.apply(20, 19));
        Expect.is("2 comes before", 2, () -> x.apply(19, 19));
    }

    private static void poorWallet() {
        Expect.sentence("7 the WALLET of a depositor, less what it deposited before in the TRANSACTION, has less than a deposit above 0");
        String text = "when [deposit a b t 4 when [deposit c b t 3 when [deposit a b u 2 when [deposit a b t 0 close] 90 close] 80 close] 70 close] 60 close";
        long[][] due = {{3, 2, 7}, {4, 2, 7}, {6, 2, 7}, {7, 1, 7}, {7, 2, 0}, {0, 2, 7}, {8, 3, 0}};
        for (long[] row : due) {
            MarloweHost x = Expect.host(text);
            x.wallet(0, 0, 100);
            x.wallet(2, 0, 100);
            x.wallet(1, 0, row[0]);
            x.wallet(1, 1, row[1]);
            x.deposit(0, 1, 0, 4);
            x.deposit(2, 1, 0, 3);
            x.deposit(0, 1, 1, 2);
            x.deposit(0, 1, 0, 0);
            Expect.is("WALLET of " + row[0] + " and " + row[1], row[2], () -> x.apply(0, 0));
            Expect.is("the WALLET then", row[2] == 0 ? row[0] - 7 : row[0], () -> x.state(1, 1, 0));
        }
        MarloweHost y = Expect.host("when [deposit a b t 4 pay a to b t 4 when [deposit a b t 4 close] 90 close] 60 close");
        y.wallet(1, 0, 4);
        y.deposit(0, 1, 0, 4);
        y.deposit(0, 1, 0, 4);
        Expect.is("what is paid does not come before the end", 7, () -> y.apply(0, 0));
        y.deposit(0, 1, 0, 4);
        Expect.is("the first one alone", 0, () -> y.apply(0, 0));
        y.deposit(0, 1, 0, 4);
        Expect.is("the second one alone", 0, () -> y.apply(0, 0));
        MarloweHost z = Expect.host("when [deposit a b t -5 close] 60 close");
        z.deposit(0, 1, 0, -5);
        Expect.is("a deposit below 0 needs no WALLET", 0, () -> z.apply(0, 0));
        MarloweHost w = Expect.host("when [deposit a b t -5 when [deposit a b t 4 close] 90 close] 60 close");
        w.wallet(1, 0, 3);
        w.deposit(0, 1, 0, -5);
        w.deposit(0, 1, 0, 4);
        Expect.is("a deposit below 0 gives nothing", 7, () -> w.apply(0, 0));
    }

    private static void poorBeforeLarge() {
        Expect.sentence("(looked at when that fits, before what is LARGE by it). (So 7 comes before 6 there.)");
        MarloweHost x = Expect.host(deposits("close", HALF, HALF, HALF));
        deposit(x, 1L << 61);
        deposit(x, 1L << 61);
        x.wallet(1, 0, (1L << 61) - 1);
        x.deposit(0, 1, 0, 1L << 61);
        Expect.is("the ACCOUNT would be LARGE", 7, () -> x.apply(0, 0));
        x.wallet(1, 0, 1L << 61);
        x.deposit(0, 1, 0, 1L << 61);
        Expect.is("with enough in the WALLET", 6, () -> x.apply(0, 0));
        MarloweHost y = Expect.host("when [deposit a b t 5 let x " + LARGE + " close] 9 close");
        y.deposit(0, 1, 0, 5);
        Expect.is("LARGE behind it", 7, () -> y.apply(0, 0));
        y.deposit(0, 1, 0, 6);
        Expect.is("what does not fit is not looked at", 4, () -> y.apply(0, 0));
        MarloweHost z = Expect.host("let x " + LARGE + " when [deposit a b t 5 close] 9 close");
        z.deposit(0, 1, 0, 5);
        Expect.is("LARGE before it", 6, () -> z.apply(0, 0));
        MarloweHost w = Expect.host("when [deposit a b t " + LARGE + " close deposit a b t 5 close] 9 close");
        w.deposit(0, 1, 0, 5);
        Expect.is("a V that is LARGE fits nothing", 6, () -> w.apply(0, 0));
    }

    private static void largeWallet() {
        Expect.sentence("6 LARGE (at last also a WALLET that would have more than 2 ** 62)");
        MarloweHost x = Expect.host(deposits("when [notify true close choice q a [1 1] pay a to b t 1 close] 99 close", HALF, HALF));
        deposit(x, 1L << 61);
        deposit(x, 1L << 61);
        x.wallet(0, 0, 1);
        x.remind();
        Expect.is("2 ** 62 + 1", 6, () -> x.apply(0, 0));
        Expect.is("the WALLET stays", 1, () -> x.state(1, 0, 0));
        Expect.is("the ACCOUNT stays", LARGEST, () -> x.state(0, 0, 0));
        x.remind();
        x.remind();
        Expect.is("at last: 4 comes before", 4, () -> x.apply(0, 0));
        x.choose(0, 1);
        Expect.is("2 ** 62 - 1 to 1", 0, () -> x.apply(0, 0));
        Expect.is("WALLET of a", LARGEST, () -> x.state(1, 0, 0));
        Expect.is("WALLET of b", 1, () -> x.state(1, 1, 0));
        // 2 ** 62 to 2 ** 62 wraps around
        MarloweHost y = rich();
        Expect.read(y, "when [deposit c b t " + HALF + " when [deposit c b t " + HALF + " pay c to a t " + MOST + " close] 99 close] 98 close");
        Expect.is("b is 1 as before", LARGEST, () -> y.state(1, 1, 0));
        y.deposit(0, 1, 0, 1L << 61);
        Expect.is("a deposit of 2 ** 61", 0, () -> y.apply(0, 0));
        y.wallet(2, 0, 1L << 61);
        y.deposit(0, 1, 0, 1L << 61);
        Expect.is("2 ** 62 to 2 ** 61", 6, () -> y.apply(0, 0));
        y.wallet(2, 0, 0);
        y.deposit(0, 1, 0, 1L << 61);
        Expect.is("2 ** 62 to 0", 0, () -> y.apply(0, 0));
        Expect.is("WALLET", LARGEST, () -> y.state(1, 2, 0));
        // what it deposits goes off before what it is paid comes
        MarloweHost z = rich();
        Expect.read(z, "when [deposit a b t " + MOST + " pay a to b t " + MOST + " close] 9 close");
        z.deposit(0, 1, 0, LARGEST);
        Expect.is("all of it and back", 0, () -> z.apply(0, 0));
        Expect.is("WALLET", LARGEST, () -> z.state(1, 1, 0));
        // .. also where the PAYMENT was before the deposit
        MarloweHost w = rich();
        Expect.read(w, "if false pay a to b t 1 close when [deposit a c t 1 pay a to b t 1 when [deposit a b t 1 when [] 99 close] 90 close] 80 close");
        w.wallet(2, 0, 1);
        w.deposit(0, 2, 0, 1);
        Expect.is("2 ** 62 + 1", 6, () -> w.apply(0, 0));
        w.deposit(0, 2, 0, 1);
        w.deposit(0, 1, 0, 1);
        Expect.is("2 ** 62 + 1 - 1", 0, () -> w.apply(0, 0));
        Expect.is("WALLET", LARGEST, () -> w.state(1, 1, 0));
        Expect.is("ACCOUNT", 1, () -> w.state(0, 0, 0));
    }

    private static void errorChangesNothing() {
        Expect.sentence("With an ERROR nothing changes (no PAYMENTS, no WARNINGS)");
        MarloweHost x = Expect.host("when [deposit a b t 4 let x 1 pay a to b t 1 assert false when [choice q a [1 1] when [] 60 close] 80 close] 70 close");
        x.wallet(1, 0, 4);
        for (int error : new int[] {4, 3}) {
            x.deposit(0, 1, 0, 4);
            x.choose(0, 1);
            if (error == 4) {
                x.remind();
            }
            Expect.is("apply", error, () -> x.apply(3, error == 4 ? 4 : 60));
            counted(x, 0, 0);
            Expect.is("NODE", 0, () -> x.count(0));
            Expect.is("ACCOUNT", 0, () -> x.state(0, 0, 0));
            Expect.is("WALLET", 4, () -> x.state(1, 1, 0));
            Expect.is("CHOSEN", 0, () -> x.state(2, 0, 0));
            Expect.is("USED", 0, () -> x.state(3, 0, 0));
            Expect.is("TIME", 0, () -> x.state(4, 0, 0));
        }
        x.deposit(0, 1, 0, 4);
        x.choose(0, 1);
        Expect.is("apply", 0, () -> x.apply(3, 4));
        counted(x, 1, 1);
        warning(x, 0, 5, 7);
        Expect.is("an ERROR behind it", 5, () -> x.apply(3, 4));
        counted(x, 0, 0);
        Expect.is("CHOSEN", 1, () -> x.state(2, 0, 0));
    }

    private static void walletsInTheEnd() {
        Expect.sentence("Else WALLETS: less what was deposited, more what was paid to their PARTIES");
        MarloweHost x = Expect.host("when [deposit a b t 4 pay a to b t 1 pay a to c t 1 pay a into d t 1 when [deposit a b u 1 close] 99 close] 9 close");
        x.wallet(1, 0, 10);
        x.wallet(1, 1, 10);
        x.wallet(2, 0, 50);
        x.deposit(0, 1, 0, 4);
        Expect.is("apply", 0, () -> x.apply(0, 0));
        Expect.is("WALLET of b", 7, () -> x.state(1, 1, 0));
        Expect.is("WALLET of c", 51, () -> x.state(1, 2, 0));
        Expect.is("WALLET of d", 0, () -> x.state(1, 3, 0));
        x.deposit(0, 1, 1, 1);
        Expect.is("apply", 0, () -> x.apply(0, 0));
        Expect.is("WALLET of b", 9, () -> x.state(1, 1, 1));
        Expect.is("WALLET of a", 1, () -> x.state(1, 0, 0));
        Expect.is("WALLET of a", 1, () -> x.state(1, 0, 1));
        Expect.is("WALLET of d", 1, () -> x.state(1, 3, 0));
        Expect.is("WALLET of c", 51, () -> x.state(1, 2, 0));
    }
}
