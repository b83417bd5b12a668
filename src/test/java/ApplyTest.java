/** Promises 9 to 12: apply, told, paid, state. */
public final class ApplyTest {
    private static final String HALF = "* 2147483648 1073741824";
    private static final long LARGEST = 1L << 62;

    public static void main(String[] args) {
        intervals();
        timeIsLow();
        ambiguous();
        noMatch();
        useless();
        operators();
        largeValues();
        laziness();
        startAndEnd();
        closePaysAll();
        payWarnings();
        payInto();
        lets();
        asserts();
        ifs();
        depositsFit();
        choicesFit();
        notifiesFit();
        depositWarning();
        poorDepositors();
        walletsSettle();
        largeAccounts();
        largeWallets();
        errorChangesNothing();
        toldArguments();
        toldStays();
        toldOfLatest();
        manyWarnings();
        balances();
        stateArguments();
        Expect.finish();
    }

    private static void intervals() {
        MarloweHost x = Expect.host("when [] 10 close");
        Expect.is("high below low", 1, () -> x.apply(5, 4));
        Expect.is("high below low and the TIME", 1, () -> x.apply(-1, -2));
        Expect.is("high below the TIME", 2, () -> x.apply(-2, -1));
        Expect.is("extremes", 1, () -> x.apply(Long.MAX_VALUE, Long.MIN_VALUE));
        Expect.is("extremes", 3, () -> x.apply(Long.MIN_VALUE, Long.MAX_VALUE));
        Expect.is("TIME", 0, () -> x.state(4, 0, 0));
        Expect.is("end of time", 0, () -> x.apply(Long.MAX_VALUE, Long.MAX_VALUE));
        Expect.is("TIME", Long.MAX_VALUE, () -> x.state(4, 0, 0));
        Expect.is("high below the TIME", 2, () -> x.apply(0, Long.MAX_VALUE - 1));
    }

    private static void timeIsLow() {
        MarloweHost x = Expect.host("let s start let e end when [notify true let s2 start let e2 end when [] 20 close] 10 close");
        Expect.is("apply", 0, () -> x.apply(3, 6));
        Expect.is("TIME", 3, () -> x.state(4, 0, 0));
        Expect.is("start", 3, () -> x.state(3, 0, 0));
        Expect.is("end", 6, () -> x.state(3, 1, 0));
        x.remind();
        Expect.is("apply", 0, () -> x.apply(-7, 5));
        Expect.is("TIME stays at least what it was", 3, () -> x.state(4, 0, 0));
        Expect.is("start", 3, () -> x.state(3, 2, 0));
        Expect.is("end", 5, () -> x.state(3, 3, 0));
    }

    private static void ambiguous() {
        MarloweHost x = Expect.host("when [] 10 when [] 20 close");
        Expect.is("5 to 10", 3, () -> x.apply(5, 10));
        Expect.is("9 to 11", 3, () -> x.apply(9, 11));
        Expect.is("5 to 9", 5, () -> x.apply(5, 9));
        Expect.is("10 to 20", 3, () -> x.apply(10, 20));
        Expect.is("NODE", 0, () -> x.count(0));
        Expect.is("10 to 19", 0, () -> x.apply(10, 19));
        Expect.is("NODE", 1, () -> x.count(0));
        Expect.is("20 to 20", 0, () -> x.apply(20, 20));
        Expect.is("NODE", 2, () -> x.count(0));
        MarloweHost y = Expect.host("when [] 10 close");
        Expect.is("10 to 10", 0, () -> y.apply(10, 10));
        MarloweHost z = Expect.host("when [notify true when [] 3 close] 10 close");
        z.remind();
        Expect.is("AMBIGUOUS behind an INPUT", 3, () -> z.apply(2, 4));
        z.remind();
        z.remind();
        Expect.is("AMBIGUOUS before the second INPUT", 3, () -> z.apply(2, 4));
    }

    private static void noMatch() {
        MarloweHost x = Expect.host("when [notify false close] 10 close");
        x.remind();
        Expect.is("notify of false", 4, () -> x.apply(0, 0));
        Expect.is("no INPUTS are left", 0, () -> x.count(6));
        x.choose(0, 1);
        Expect.is("a choice", 4, () -> x.apply(0, 0));
        x.remind();
        Expect.is("behind the time", 4, () -> x.apply(10, 10));
        MarloweHost y = Expect.host("close");
        y.remind();
        Expect.is("no when", 4, () -> y.apply(0, 0));
    }

    private static void useless() {
        MarloweHost x = Expect.host("when [notify true close] 10 close");
        Expect.is("nothing is REDUCED", 5, () -> x.apply(3, 4));
        Expect.is("TIME", 0, () -> x.state(4, 0, 0));
        x.remind();
        Expect.is("an INPUT", 0, () -> x.apply(3, 4));
        Expect.is("TIME", 3, () -> x.state(4, 0, 0));
        Expect.is("close of nothing", 5, () -> x.apply(3, 4));
    }

    private static long value(String text) {
        MarloweHost x = Expect.host("let x " + text + " close");
        int error = x.apply(0, 0);
        return error == 0 ? x.state(3, 0, 0) : -1000 - error;
    }

    private static void reckons(String text, long due) {
        Expect.is(text, due, () -> value(text));
    }

    private static void operators() {
        reckons("+ 2 3", 5);
        reckons("- 2 3", -1);
        reckons("* -2 3", -6);
        reckons("neg 3", -3);
        reckons("neg -3", 3);
        reckons("/ 7 2", 3);
        reckons("/ -7 2", -3);
        reckons("/ 7 -2", -3);
        reckons("/ -7 -2", 3);
        reckons("/ 7 0", 0);
        reckons("/ 0 0", 0);
        reckons("/ 1 2", 0);
        reckons("balance a t", 0);
        reckons("chosen q a", 0);
        reckons("use y", 0);
        String[] truths = {"true", "< 1 2", "<= 2 2", "<= 1 2", "> 2 1", ">= 2 2", ">= 3 2", "= 2 2", "and true true",
            "or false true", "or true false", "not false", "not made q a"};
        String[] untruths = {"false", "< 2 2", "<= 3 2", "> 2 2", ">= 1 2", "= 1 2", "and true false", "and false true",
            "or false false", "not true", "made q a"};
        for (String text : truths) {
            reckons("cond " + text + " 1 2", 1);
        }
        for (String text : untruths) {
            reckons("cond " + text + " 1 2", 2);
        }
    }

    private static void largeValues() {
        long large = -1006;
        reckons("+ " + HALF + " " + HALF, LARGEST);
        reckons("neg + " + HALF + " " + HALF, -LARGEST);
        reckons("* 2147483648 2147483648", LARGEST);
        reckons("* -2147483648 2147483648", -LARGEST);
        reckons("* 2 " + HALF, LARGEST);
        reckons("+ 1 * 2147483648 2147483648", large);
        reckons("- * -2147483648 2147483648 1", large);
        reckons("- * 2147483648 2147483648 1", LARGEST - 1);
        reckons("- 0 * 2147483648 2147483648", -LARGEST);
        reckons("- -1 * 2147483648 2147483648", large);
        reckons("+ neg " + HALF + " neg " + HALF, -LARGEST);
        reckons("+ * 2147483648 2147483648 * 2147483648 2147483648", large);
        reckons("- * 2147483648 2147483648 * -2147483648 2147483648", large);
        reckons("- * -2147483648 2147483648 * 2147483648 2147483648", large);
        reckons("* 4294967296 4294967296", large);
        reckons("* 99999999999999999 99999999999999999", large);
        reckons("* 99999999999999999 -99999999999999999", large);
        reckons("* 46 99999999999999999", 46 * 99999999999999999L);
        reckons("* 47 99999999999999999", large);
        reckons("* -46 99999999999999999", -46 * 99999999999999999L);
        reckons("* -47 -99999999999999999", large);
        reckons("* 0 99999999999999999", 0);
        reckons("* 2147483649 2147483648", large);
        reckons("* -1 * 2147483648 2147483648", -LARGEST);
        reckons("/ * -2147483648 2147483648 -1", LARGEST);
        reckons("/ neg * 2147483648 2147483648 1", -LARGEST);
        // what is LARGE on the way is not mended by what comes behind it
        reckons("* 0 * 99999999999999999 99999999999999999", large);
        reckons("/ 1 * 99999999999999999 99999999999999999", large);
    }

    private static void laziness() {
        String big = "* 99999999999999999 99999999999999999";
        reckons("cond true 1 " + big, 1);
        reckons("cond false " + big + " 2", 2);
        reckons("cond false 1 " + big, -1006);
        reckons("cond and false = 0 " + big + " 1 2", -1006);
        reckons("cond or true = 0 " + big + " 1 2", -1006);
        reckons("cond or = 0 " + big + " true 1 2", -1006);
        MarloweHost x = Expect.host("if false let x " + big + " close when [] 9 close");
        Expect.is("only the second C", 0, () -> x.apply(0, 0));
        MarloweHost y = Expect.host("when [deposit a a t " + big + " close deposit a b t 1 close] 9 close");
        y.wallet(1, 0, 1);
        y.deposit(0, 1, 0, 1);
        Expect.is("V of other PARTIES is not reckoned", 0, () -> y.apply(0, 0));
        MarloweHost z = Expect.host("when [deposit a b t " + big + " close deposit a b t 1 close] 9 close");
        z.wallet(1, 0, 1);
        z.deposit(0, 1, 0, 1);
        Expect.is("V of the same ones is reckoned", 6, () -> z.apply(0, 0));
        MarloweHost w = Expect.host("when [notify = 0 " + big + " close notify true close] 9 close");
        w.remind();
        Expect.is("O is LARGE", 6, () -> w.apply(0, 0));
        MarloweHost v = Expect.host("when [notify true close notify = 0 " + big + " close] 9 close");
        v.remind();
        Expect.is("the first A that fits", 0, () -> v.apply(0, 0));
    }

    private static void startAndEnd() {
        MarloweHost x = Expect.host("let s start let e end close");
        Expect.is("2 ** 62", 0, () -> x.apply(LARGEST, LARGEST));
        Expect.is("start", LARGEST, () -> x.state(3, 0, 0));
        Expect.is("end", LARGEST, () -> x.state(3, 1, 0));
        MarloweHost y = Expect.host("let e end close");
        Expect.is("end is LARGE", 6, () -> y.apply(0, LARGEST + 1));
        MarloweHost z = Expect.host("let s start close");
        Expect.is("start is LARGE", 6, () -> z.apply(LARGEST + 1, LARGEST + 1));
        Expect.is("end is not asked", 0, () -> z.apply(1, LARGEST + 1));
    }

    /** Deposits by b into the accounts of a, b, c, of two tokens. */
    private static MarloweHost filled(String rest) {
        MarloweHost x = Expect.host("when [deposit a b t 5 when [deposit c b u 7 when [deposit b b u 9 when [deposit b b t 1 " + rest
                + "] 90 close] 90 close] 90 close] 90 close");
        x.wallet(1, 0, 6);
        x.wallet(1, 1, 16);
        x.deposit(0, 1, 0, 5);
        x.deposit(2, 1, 1, 7);
        x.deposit(1, 1, 1, 9);
        x.deposit(1, 1, 0, 1);
        return x;
    }

    private static void payment(MarloweHost x, int k, int from, int to, int token, long amount) {
        Expect.is("payer of " + k, from, () -> x.told(2, k));
        Expect.is("payee of " + k, to, () -> x.told(3, k));
        Expect.is("token of " + k, token, () -> x.told(4, k));
        Expect.is("paid(" + k + ")", amount, () -> x.paid(k));
    }

    private static void closePaysAll() {
        MarloweHost x = filled("close");
        Expect.is("apply", 0, () -> x.apply(0, 0));
        Expect.is("PAYMENTS", 4, () -> x.count(8));
        Expect.is("WARNINGS", 0, () -> x.count(7));
        payment(x, 0, 0, 0, 0, 5);
        payment(x, 1, 1, 1, 0, 1);
        payment(x, 2, 1, 1, 1, 9);
        payment(x, 3, 2, 2, 1, 7);
        Expect.is("WALLET of a", 5, () -> x.state(1, 0, 0));
        Expect.is("WALLET of b", 1, () -> x.state(1, 1, 0));
        Expect.is("WALLET of b", 9, () -> x.state(1, 1, 1));
        Expect.is("WALLET of c", 7, () -> x.state(1, 2, 1));
        Expect.is("ACCOUNT of a", 0, () -> x.state(0, 0, 0));
        Expect.is("close stays", 5, () -> x.apply(0, 0));
    }

    private static void payWarnings() {
        MarloweHost x = filled("pay a to c t 3 pay a to c t 0 pay a to c t -4 pay a to c t 3 pay a to c t 1 pay a to c u 2 when [] 99 close");
        Expect.is("apply", 0, () -> x.apply(0, 0));
        int[] warnings = {2, 2, 3, 3, 3};
        int[] nodes = {14, 16, 18, 20, 22};
        Expect.is("WARNINGS", 5, () -> x.count(7));
        for (int i = 0; i < 5; i++) {
            int k = i;
            Expect.is("WARNING " + k, warnings[k], () -> x.told(0, k));
            Expect.is("its NODE", nodes[k], () -> x.told(1, k));
        }
        Expect.is("PAYMENTS", 2, () -> x.count(8));
        payment(x, 0, 0, 2, 0, 3);
        payment(x, 1, 0, 2, 0, 2);
        Expect.is("WALLET of c", 5, () -> x.state(1, 2, 0));
        Expect.is("ACCOUNT of a", 0, () -> x.state(0, 0, 0));
        Expect.is("ACCOUNT of b", 9, () -> x.state(0, 1, 1));
    }

    private static void payInto() {
        MarloweHost x = filled("pay a into c t 3 pay a into a t 2 pay c into a t 9 pay b into c t 0 when [] 99 close");
        Expect.is("apply", 0, () -> x.apply(0, 0));
        Expect.is("PAYMENTS", 0, () -> x.count(8));
        Expect.is("WARNINGS", 2, () -> x.count(7));
        Expect.is("WARNING", 3, () -> x.told(0, 0));
        Expect.is("WARNING", 2, () -> x.told(0, 1));
        Expect.is("ACCOUNT of a", 5, () -> x.state(0, 0, 0));
        Expect.is("ACCOUNT of c", 0, () -> x.state(0, 2, 0));
        Expect.is("ACCOUNT of b", 1, () -> x.state(0, 1, 0));
    }

    private static void lets() {
        MarloweHost x = Expect.host("let x 1 let y 0 let x + use x 5 let y use x when [] 9 let x 0 when [] 19 close");
        Expect.is("apply", 0, () -> x.apply(0, 0));
        Expect.is("x", 6, () -> x.state(3, 0, 0));
        Expect.is("y", 6, () -> x.state(3, 1, 0));
        Expect.is("WARNINGS", 2, () -> x.count(7));
        Expect.is("WARNING", 4, () -> x.told(0, 0));
        Expect.is("NODE", 4, () -> x.told(1, 0));
        Expect.is("WARNING", 4, () -> x.told(0, 1));
        Expect.is("NODE", 8, () -> x.told(1, 1));
        Expect.is("apply", 0, () -> x.apply(9, 9));
        Expect.is("USED before", 4, () -> x.told(0, 0));
        Expect.is("x", 0, () -> x.state(3, 0, 0));
    }

    private static void asserts() {
        MarloweHost x = Expect.host("assert true assert false assert > 1 2 close");
        Expect.is("apply", 0, () -> x.apply(0, 0));
        Expect.is("WARNINGS", 2, () -> x.count(7));
        Expect.is("WARNING", 5, () -> x.told(0, 0));
        Expect.is("NODE", 2, () -> x.told(1, 0));
        Expect.is("NODE", 4, () -> x.told(1, 1));
        Expect.is("NODE left", 8, () -> x.count(0));
    }

    private static void ifs() {
        MarloweHost x = Expect.host("if = 1 1 when [] 5 close when [] 6 close");
        x.apply(0, 0);
        Expect.is("the first C", 4, () -> x.count(0));
        MarloweHost y = Expect.host("if = 1 2 when [] 5 close when [] 6 close");
        y.apply(0, 0);
        Expect.is("the second C", 6, () -> y.count(0));
    }

    private static void depositsFit() {
        String text = "when [deposit a b t 5 when [] 90 close deposit a b t 5 close deposit b a t 5 when [] 91 close deposit a b u + 2 3 when [] 92 close] 9 close";
        int[][] inputs = {{0, 1, 0, 5, 3}, {1, 0, 0, 5, 10}, {0, 1, 1, 5, 16}, {0, 0, 0, 5, -4}, {1, 1, 0, 5, -4}, {0, 1, 0, 4, -4},
            {0, 1, 0, 6, -4}, {0, 1, 2, 5, -4}, {7, 7, 3, 5, -4}};
        for (int[] in : inputs) {
            MarloweHost x = Expect.host(text);
            x.wallet(0, 0, 5);
            x.wallet(1, 0, 5);
            x.wallet(1, 1, 5);
            x.deposit(in[0], in[1], in[2], in[3]);
            int error = in[4] < 0 ? -in[4] : 0;
            Expect.is("deposit", error, () -> x.apply(0, 0));
            Expect.is("NODE", error == 0 ? in[4] : 0, () -> x.count(0));
            Expect.is("ACCOUNT", error == 0 ? 5 : 0, () -> x.state(0, in[0], in[2]));
            Expect.is("WALLET", error == 0 || in[2] == 2 || in[0] == 7 ? 0 : 5, () -> x.state(1, in[1], in[2]));
        }
    }

    private static void choicesFit() {
        String text = "when [choice q a [1 3 -5 -5] when [] 90 close choice q b [2 8] when [] 91 close choice q a [3 9] when [] 92 close] 9 close";
        int[][] inputs = {{0, 1, 2}, {0, 3, 2}, {0, -5, 2}, {0, 4, 8}, {0, 9, 8}, {0, 0, -4}, {0, -4, -4}, {0, 10, -4}, {1, 1, -4},
            {1, 2, 5}, {1, 8, 5}, {1, 9, -4}, {2, 2, -4}, {7, 2, -4}};
        for (int[] in : inputs) {
            MarloweHost x = Expect.host(text);
            x.choose(in[0], in[1]);
            int error = in[2] < 0 ? 4 : 0;
            Expect.is("choose " + in[0] + " " + in[1], error, () -> x.apply(0, 0));
            Expect.is("NODE", error == 0 ? in[2] : 0, () -> x.count(0));
            Expect.is("CHOSEN", error == 0 ? in[1] : 0, () -> x.state(2, in[0], 0));
        }
        MarloweHost y = Expect.host("when [choice q a [1 3] when [choice q a [0 3] let x chosen q a when [] 50 close] 40 close] 30 close");
        y.choose(0, 3);
        Expect.is("apply", 0, () -> y.apply(0, 0));
        y.choose(0, 0);
        Expect.is("apply", 0, () -> y.apply(0, 0));
        Expect.is("CHOSEN anew", 0, () -> y.state(2, 0, 0));
        MarloweHost z = Expect.host("when [choice q a [0 0] if made q a when [] 50 close close] 30 close");
        z.choose(0, 0);
        z.apply(0, 0);
        Expect.is("0 is CHOSEN, too", 4, () -> z.count(0));
    }

    private static void notifiesFit() {
        MarloweHost x = Expect.host("when [notify false when [] 90 close notify < 1 2 when [] 91 close notify true close] 9 close");
        x.remind();
        Expect.is("apply", 0, () -> x.apply(0, 0));
        Expect.is("NODE", 9, () -> x.count(0));
        MarloweHost y = Expect.host("when [" + "notify false close ".repeat(7) + "notify true when [] 90 close] 9 close");
        y.remind();
        Expect.is("apply, the eighth A", 0, () -> y.apply(0, 0));
        Expect.is("NODE", 24, () -> y.count(0));
    }

    private static void depositWarning() {
        MarloweHost x = Expect.host("when [notify false close deposit a b t 0 when [deposit a b t -3 when [] 90 close] 80 close] 9 close");
        x.deposit(0, 1, 0, 0);
        x.deposit(0, 1, 0, -3);
        Expect.is("apply", 0, () -> x.apply(0, 0));
        Expect.is("WARNINGS", 2, () -> x.count(7));
        Expect.is("WARNING", 1, () -> x.told(0, 0));
        Expect.is("the A", 4, () -> x.told(1, 0));
        Expect.is("WARNING", 1, () -> x.told(0, 1));
        Expect.is("the A", 7, () -> x.told(1, 1));
        Expect.is("ACCOUNT", 0, () -> x.state(0, 0, 0));
        Expect.is("WALLET", 0, () -> x.state(1, 1, 0));
    }

    private static void poorDepositors() {
        String text = "when [deposit a b t 4 when [deposit a b t 4 when [deposit a b u 4 close] 90 close] 80 close] 9 close";
        long[][] wallets = {{3, 9, 7}, {4, 9, 7}, {7, 9, 7}, {8, 3, 7}, {8, 4, 0}};
        for (long[] wallet : wallets) {
            MarloweHost x = Expect.host(text);
            x.wallet(1, 0, wallet[0]);
            x.wallet(1, 1, wallet[1]);
            x.wallet(0, 0, 100);
            x.deposit(0, 1, 0, 4);
            x.deposit(0, 1, 0, 4);
            x.deposit(0, 1, 1, 4);
            Expect.is("WALLET of " + wallet[0] + ", " + wallet[1], wallet[2], () -> x.apply(0, 0));
            Expect.is("WALLET", wallet[2] == 0 ? 0 : wallet[0], () -> x.state(1, 1, 0));
        }
        // what is paid in the TRANSACTION is not there for a deposit
        MarloweHost y = Expect.host("when [deposit a b t 4 pay a to b t 4 when [deposit a b t 4 close] 90 close] 9 close");
        y.wallet(1, 0, 4);
        y.deposit(0, 1, 0, 4);
        y.deposit(0, 1, 0, 4);
        Expect.is("apply", 7, () -> y.apply(0, 0));
        // NO MATCH comes before, as what does not fit is not looked at
        y.wallet(1, 0, 0);
        y.deposit(0, 1, 0, 5);
        Expect.is("apply", 4, () -> y.apply(0, 0));
    }

    private static void walletsSettle() {
        MarloweHost x = Expect.host("when [deposit a b t 4 pay a to b t 1 pay a to c t 1 close] 9 close");
        x.wallet(1, 0, 4);
        x.wallet(2, 0, 50);
        x.deposit(0, 1, 0, 4);
        Expect.is("apply", 0, () -> x.apply(0, 0));
        Expect.is("WALLET of a", 2, () -> x.state(1, 0, 0));
        Expect.is("WALLET of b", 1, () -> x.state(1, 1, 0));
        Expect.is("WALLET of c", 51, () -> x.state(1, 2, 0));
    }

    /** Deposits of 2 ** 61 each, into a's account by b, with what comes behind. */
    private static String deposits(int most, String rest) {
        String text = "";
        for (int i = 0; i < most; i++) {
            text += "when [deposit a b t " + HALF + " ";
        }
        text += rest;
        for (int i = 0; i < most; i++) {
            text += "] 90 close";
        }
        return text;
    }

    private static int depositHalf(MarloweHost x, int account) {
        x.wallet(1, 0, 1L << 61);
        x.deposit(account, 1, 0, 1L << 61);
        return x.apply(0, 0);
    }

    private static void largeAccounts() {
        MarloweHost x = Expect.host(deposits(3, "close"));
        Expect.is("deposit", 0, () -> depositHalf(x, 0));
        Expect.is("deposit", 0, () -> depositHalf(x, 0));
        Expect.is("ACCOUNT of 2 ** 62", LARGEST, () -> x.state(0, 0, 0));
        Expect.is("deposit", 6, () -> depositHalf(x, 0));
        Expect.is("ACCOUNT stays", LARGEST, () -> x.state(0, 0, 0));
        x.wallet(1, 0, (1L << 61) - 1);
        x.deposit(0, 1, 0, 1L << 61);
        Expect.is("7 comes before 6", 7, () -> x.apply(0, 0));
        MarloweHost y = Expect.host(deposits(2, "when [deposit c b t 1 when [notify true pay c into a t 1 when [] 99 close "
                + "choice q a [1 1] pay a into c t * 2 " + HALF + " close] 98 close] 97 close"));
        depositHalf(y, 0);
        depositHalf(y, 0);
        y.wallet(1, 0, 1);
        y.deposit(2, 1, 0, 1);
        Expect.is("apply", 0, () -> y.apply(0, 0));
        y.remind();
        Expect.is("into a full ACCOUNT", 6, () -> y.apply(0, 0));
        y.choose(0, 1);
        Expect.is("into an ACCOUNT that gets full", 6, () -> y.apply(0, 0));
        Expect.is("ACCOUNT of c", 1, () -> y.state(0, 2, 0));
        MarloweHost z = Expect.host(deposits(2, "pay a into a t * 2 " + HALF + " when [] 99 close"));
        depositHalf(z, 0);
        Expect.is("into the same ACCOUNT", 0, () -> depositHalf(z, 0));
        Expect.is("ACCOUNT", LARGEST, () -> z.state(0, 0, 0));
        Expect.is("WARNINGS", 0, () -> z.count(7));
    }

    private static void largeWallets() {
        MarloweHost x = Expect.host(deposits(2, "when [notify true close] 99 close"));
        depositHalf(x, 0);
        depositHalf(x, 0);
        x.wallet(0, 0, 1);
        x.remind();
        Expect.is("a WALLET of more than 2 ** 62", 6, () -> x.apply(0, 0));
        Expect.is("PAYMENTS", 0, () -> x.count(8));
        Expect.is("ACCOUNT", LARGEST, () -> x.state(0, 0, 0));
        x.remind();
        x.remind();
        Expect.is("NO MATCH comes before", 4, () -> x.apply(0, 0));
        x.wallet(0, 0, 0);
        x.remind();
        Expect.is("a WALLET of 2 ** 62", 0, () -> x.apply(0, 0));
        Expect.is("WALLET", LARGEST, () -> x.state(1, 0, 0));
        Expect.is("what it had", LARGEST, () -> x.wallet(0, 0, 3));
        // two PAYMENTS of 2 ** 62 to one PARTY wrap a long around
        String two = "when [deposit c b t " + HALF + " when [deposit c b t " + HALF
                + " when [notify true pay a to d t * 2 " + HALF + " pay c to d t * 2 " + HALF + " close] 99 close] 98 close] 97 close";
        MarloweHost y = Expect.host(deposits(2, two));
        depositHalf(y, 0);
        depositHalf(y, 0);
        Expect.is("deposit", 0, () -> depositHalf(y, 2));
        Expect.is("deposit", 0, () -> depositHalf(y, 2));
        y.remind();
        Expect.is("two PAYMENTS of 2 ** 62", 6, () -> y.apply(0, 0));
        // what was deposited is taken off first
        MarloweHost z = Expect.host("when [deposit a b t 5 close deposit b b t 6 close] 9 close");
        z.wallet(1, 0, 6);
        z.deposit(1, 1, 0, 6);
        Expect.is("apply", 0, () -> z.apply(0, 0));
        Expect.is("WALLET", 6, () -> z.state(1, 1, 0));
    }

    private static void errorChangesNothing() {
        MarloweHost x = Expect.host("when [deposit a b t 4 assert false let x 1 pay a to b t 9 when [choice q a [1 1] let x * 99999999999999999 99999999999999999 close] 90 close] 9 close");
        x.wallet(1, 0, 4);
        x.deposit(0, 1, 0, 4);
        x.choose(0, 1);
        Expect.is("apply", 6, () -> x.apply(3, 4));
        Expect.is("WARNINGS", 0, () -> x.count(7));
        Expect.is("PAYMENTS", 0, () -> x.count(8));
        Expect.noIndex("told", () -> x.told(0, 0));
        Expect.noIndex("told", () -> x.told(2, 0));
        Expect.noIndex("paid", () -> x.paid(0));
        Expect.is("INPUTS", 0, () -> x.count(6));
        Expect.is("NODE", 0, () -> x.count(0));
        Expect.is("TIME", 0, () -> x.state(4, 0, 0));
        Expect.is("ACCOUNT", 0, () -> x.state(0, 0, 0));
        Expect.is("WALLET", 4, () -> x.state(1, 1, 0));
        Expect.is("CHOSEN", 0, () -> x.state(2, 0, 0));
        Expect.is("USED", 0, () -> x.state(3, 0, 0));
        x.deposit(0, 1, 0, 4);
        Expect.is("apply", 0, () -> x.apply(3, 4));
        Expect.is("WARNINGS", 2, () -> x.count(7));
        Expect.is("PAYMENTS", 1, () -> x.count(8));
        Expect.is("TIME", 3, () -> x.state(4, 0, 0));
        Expect.is("x is USED the first time", 1, () -> x.state(3, 0, 0));
        Expect.is("an ERROR", 1, () -> x.apply(4, 3));
        Expect.is("WARNINGS", 0, () -> x.count(7));
        Expect.is("PAYMENTS", 0, () -> x.count(8));
    }

    private static void toldArguments() {
        MarloweHost x = new MarloweHost();
        Expect.noIndex("told(0, 0)", () -> x.told(0, 0));
        Expect.noArgument("told(5, 0)", () -> x.told(5, 0));
        Expect.noArgument("told(-1, -1)", () -> x.told(-1, -1));
        Expect.noIndex("paid(0)", () -> x.paid(0));
        MarloweHost y = filled("assert false close");
        y.apply(0, 0);
        Expect.is("told(0, 0)", 5, () -> y.told(0, 0));
        for (int what = 0; what < 5; what++) {
            int w = what;
            Expect.noIndex("told(" + w + ", -1)", () -> y.told(w, -1));
            Expect.noIndex("told(" + w + ", last)", () -> y.told(w, w < 2 ? 1 : 4));
            Expect.noIndex("told(" + w + ", most)", () -> y.told(w, Integer.MAX_VALUE));
            Expect.noIndex("told(" + w + ", least)", () -> y.told(w, Integer.MIN_VALUE));
        }
        Expect.noIndex("paid(-1)", () -> y.paid(-1));
        Expect.noIndex("paid(4)", () -> y.paid(4));
        Expect.noArgument("told(5, 0)", () -> y.told(5, 0));
        Expect.noArgument("told(least, 0)", () -> y.told(Integer.MIN_VALUE, 0));
    }

    private static void toldStays() {
        MarloweHost x = filled("assert false close");
        x.apply(0, 0);
        x.analyse();
        Expect.is("analyse() leaves it", 4, () -> x.count(8));
        Expect.read(x, "close");
        Expect.is("end() leaves it", 4, () -> x.count(8));
        Expect.is("end() leaves it", 7, () -> x.paid(3));
        Expect.is("end() leaves it", 5, () -> x.told(0, 0));
        Expect.read(x, "wrong");
        Expect.noState("apply", () -> x.apply(0, 0));
        Expect.is("what throws leaves it", 4, () -> x.count(8));
        Expect.is("what throws leaves it", 1, () -> x.count(7));
    }

    private static void toldOfLatest() {
        MarloweHost x = Expect.host("assert false pay a to b t 1 when [notify true assert false when [] 9 assert false close] 5 close");
        x.apply(0, 0);
        Expect.is("WARNINGS", 2, () -> x.count(7));
        x.remind();
        x.apply(0, 0);
        Expect.is("WARNINGS of the latest one", 1, () -> x.count(7));
        Expect.is("its NODE", 7, () -> x.told(1, 0));
        Expect.noIndex("no second one", () -> x.told(0, 1));
        x.apply(9, 9);
        Expect.is("WARNINGS of the latest one", 1, () -> x.count(7));
        Expect.is("its NODE", 10, () -> x.told(1, 0));
    }

    private static void manyWarnings() {
        MarloweHost x = Expect.host("assert false ".repeat(99) + "close");
        Expect.is("apply", 0, () -> x.apply(0, 0));
        Expect.is("WARNINGS", 99, () -> x.count(7));
        Expect.is("the NODE of the last one", 196, () -> x.told(1, 98));
        // 16 deposits that are not above 0, and a WARNING behind each of them
        MarloweHost y = Expect.host("when [deposit a b t 0 pay a to b t 0 ".repeat(16) + "close" + "] 9 close".repeat(16));
        for (int i = 0; i < 16; i++) {
            y.deposit(0, 1, 0, 0);
        }
        Expect.is("apply", 0, () -> y.apply(0, 0));
        Expect.is("WARNINGS", 32, () -> y.count(7));
        Expect.is("WARNING", 1, () -> y.told(0, 30));
        Expect.is("WARNING", 2, () -> y.told(0, 31));
        MarloweHost z = Expect.host("when [deposit a b t 90 " + "pay a to b t 1 ".repeat(88) + "close] 9 close");
        z.wallet(1, 0, 90);
        z.deposit(0, 1, 0, 90);
        Expect.is("apply", 0, () -> z.apply(0, 0));
        Expect.is("PAYMENTS", 89, () -> z.count(8));
        Expect.is("the last one", 2, () -> z.paid(88));
        Expect.is("WALLET of b", 88, () -> z.state(1, 1, 0));
        Expect.is("WALLET of a", 2, () -> z.state(1, 0, 0));
    }

    private static void balances() {
        MarloweHost x = filled("let x balance a t let y balance b u let z balance c u let w balance b t let v balance a u when [] 99 close");
        Expect.is("apply", 0, () -> x.apply(0, 0));
        long[] due = {5, 9, 7, 1, 0};
        for (int i = 0; i < due.length; i++) {
            int k = i;
            Expect.is("balance " + k, due[k], () -> x.state(3, k, 0));
        }
    }

    private static void stateArguments() {
        MarloweHost x = Expect.host("when [choice q a [4 4] close] 9 close");
        x.choose(0, 4);
        x.apply(2, 2);
        for (int what = 0; what < 5; what++) {
            int w = what;
            Expect.noArgument("a -1", () -> x.state(w, -1, 0));
            Expect.noArgument("a 8", () -> x.state(w, 8, 0));
            Expect.noArgument("b -1", () -> x.state(w, 0, -1));
            Expect.noArgument("b 4", () -> x.state(w, 0, 4));
            Expect.is("a 7, b 3", w == 4 ? 2 : 0, () -> x.state(w, 7, 3));
        }
        Expect.is("b counts for nothing", 4, () -> x.state(2, 0, 3));
        Expect.is("a, b count for nothing", 2, () -> x.state(4, 5, 2));
        Expect.noArgument("what -1", () -> x.state(-1, 0, 0));
        Expect.noArgument("what 5", () -> x.state(5, 0, 0));
        MarloweHost y = new MarloweHost();
        Expect.noArgument("what 5", () -> y.state(5, 0, 0));
        Expect.noArgument("a 8", () -> y.state(0, 8, 0));
        for (int what = 0; what < 5; what++) {
            int w = what;
            Expect.same("state(" + w + ")", w == 1 ? "0" : "throws.IllegalStateException", Expect.answer(() -> y.state(w, 0, 0)));
        }
    }
}
