/** Promises 5 to 8: wallet, deposit, choose, remind. */
public final class InputTest {
    public static void main(String[] args) {
        wallets();
        walletArguments();
        depositArguments();
        chooseArguments();
        sixteenInputs();
        inputsWithoutContract();
        inputsInOrder();
        Expect.finish();
    }

    private static void wallets() {
        MarloweHost x = new MarloweHost();
        long most = 1L << 61;
        for (int party = 0; party < 8; party++) {
            for (int token = 0; token < 4; token++) {
                int p = party;
                int t = token;
                Expect.is("wallet", 0, () -> x.wallet(p, t, 10 * p + t));
            }
        }
        for (int party = 0; party < 8; party++) {
            for (int token = 0; token < 4; token++) {
                int p = party;
                int t = token;
                Expect.is("state(1, ..)", 10 * p + t, () -> x.state(1, p, t));
                Expect.is("wallet", 10 * p + t, () -> x.wallet(p, t, most));
                Expect.is("wallet", most, () -> x.wallet(p, t, 0));
                Expect.is("state(1, ..)", 0, () -> x.state(1, p, t));
            }
        }
    }

    private static void walletArguments() {
        MarloweHost x = new MarloweHost();
        x.wallet(0, 0, 5);
        Expect.noArgument("party -1", () -> x.wallet(-1, 0, 1));
        Expect.noArgument("party 8", () -> x.wallet(8, 0, 1));
        Expect.noArgument("party most", () -> x.wallet(Integer.MAX_VALUE, 0, 1));
        Expect.noArgument("party least", () -> x.wallet(Integer.MIN_VALUE, 0, 1));
        Expect.noArgument("token -1", () -> x.wallet(0, -1, 1));
        Expect.noArgument("token 4", () -> x.wallet(0, 4, 1));
        Expect.noArgument("amount -1", () -> x.wallet(0, 0, -1));
        Expect.noArgument("amount 2 ** 61 + 1", () -> x.wallet(0, 0, (1L << 61) + 1));
        Expect.noArgument("amount most", () -> x.wallet(0, 0, Long.MAX_VALUE));
        Expect.noArgument("amount least", () -> x.wallet(0, 0, Long.MIN_VALUE));
        Expect.is("the WALLET stays", 5, () -> x.state(1, 0, 0));
    }

    private static void depositArguments() {
        MarloweHost x = new MarloweHost();
        Expect.noArgument("account -1", () -> x.deposit(-1, 0, 0, 1));
        Expect.noArgument("account 8", () -> x.deposit(8, 0, 0, 1));
        Expect.noArgument("party -1", () -> x.deposit(0, -1, 0, 1));
        Expect.noArgument("party 8", () -> x.deposit(0, 8, 0, 1));
        Expect.noArgument("token -1", () -> x.deposit(0, 0, -1, 1));
        Expect.noArgument("token 4", () -> x.deposit(0, 0, 4, 1));
        Expect.is("INPUTS", 0, () -> x.count(6));
        Expect.is("deposit", 1, () -> x.deposit(7, 7, 3, Long.MIN_VALUE));
        Expect.is("deposit", 2, () -> x.deposit(0, 0, 0, Long.MAX_VALUE));
        Expect.is("INPUTS", 2, () -> x.count(6));
    }

    private static void chooseArguments() {
        MarloweHost x = new MarloweHost();
        Expect.noArgument("choice -1", () -> x.choose(-1, 0));
        Expect.noArgument("choice 8", () -> x.choose(8, 0));
        Expect.is("choose", 1, () -> x.choose(0, Long.MIN_VALUE));
        Expect.is("choose", 2, () -> x.choose(7, Long.MAX_VALUE));
        Expect.is("remind", 3, x::remind);
    }

    private static void sixteenInputs() {
        MarloweHost x = new MarloweHost();
        for (int i = 1; i <= 16; i++) {
            int kind = i % 3;
            Expect.is("INPUT " + i, i, () -> kind == 0 ? x.remind() : kind == 1 ? x.choose(0, 1) : x.deposit(0, 0, 0, 1));
        }
        Expect.noIndex("deposit 17", () -> x.deposit(0, 0, 0, 1));
        Expect.noIndex("choose 17", () -> x.choose(0, 1));
        Expect.noIndex("remind 17", x::remind);
        Expect.noArgument("deposit 17, of account 8", () -> x.deposit(8, 0, 0, 1));
        Expect.noArgument("choose 17, of choice 8", () -> x.choose(8, 1));
        Expect.is("INPUTS", 16, () -> x.count(6));
        Expect.read(x, "close");
        Expect.is("INPUTS behind end()", 0, () -> x.count(6));
    }

    private static void inputsWithoutContract() {
        MarloweHost x = new MarloweHost();
        x.remind();
        Expect.noState("apply", () -> x.apply(0, 0));
        Expect.is("the INPUTS stay", 1, () -> x.count(6));
        Expect.is("choose", 2, () -> x.choose(1, 1));
    }

    private static void inputsInOrder() {
        MarloweHost x = Expect.host("when [choice q a [1 1] when [notify true when [deposit a b t 3 when [] 8 close] 7 close] 6 close] 5 close");
        x.wallet(1, 0, 3);
        x.choose(0, 1);
        x.remind();
        x.deposit(0, 1, 0, 3);
        Expect.is("apply", 0, () -> x.apply(0, 1));
        Expect.is("NODE", 8, () -> x.count(0));
        Expect.is("ACCOUNT", 3, () -> x.state(0, 0, 0));
        MarloweHost y = Expect.host("when [choice q a [1 1] when [notify true when [deposit a b t 3 when [] 8 close] 7 close] 6 close] 5 close");
        y.wallet(1, 0, 3);
        y.remind();
        y.choose(0, 1);
        y.deposit(0, 1, 0, 3);
        Expect.is("apply", 4, () -> y.apply(0, 1));
        Expect.is("NODE", 0, () -> y.count(0));
    }
}
