/** Terms 3: for each sentence that names a boundary case a test of its own. */
public final class AnalyserEdgesTest {
    private static final String MOST = "* 2147483648 2147483648";
    private static final String HALF = "* 2147483648 1073741824";
    private static final String LARGE = "* 99999999999999999 99999999999999999";
    private static final long LARGEST = 1L << 62;

    public static void main(String[] args) {
        fromTheState();
        withoutWallets();
        startOrEndIsOutside();
        seventeenNumbers();
        numbersInTwo();
        whatIsLeft();
        timeOfSteps();
        firstWithoutInputs();
        nothingToDo();
        eachActionInOrder();
        depositOfValue();
        numbersInOrder();
        notifyIfTrue();
        notifyOfLarge();
        atLastTheTime();
        inDepth();
        eachWarning();
        errorLeadsNowhere();
        largeDepositLeadsNowhere();
        largeAccountLeadsNowhere();
        fuel();
        Expect.finish();
    }

    private static void analysed(MarloweHost x, String text, int answer, int looked, int found) {
        Expect.is("analyse() of " + text, answer, x::analyse);
        Expect.is("STEPS looked at in " + text, looked, () -> x.count(9));
        Expect.is("STEPS FOUND in " + text, found, () -> x.count(10));
    }

    private static MarloweHost clean(String text, int looked) {
        MarloweHost x = Expect.host(text);
        analysed(x, text, MarloweHost.CLEAN, looked, 0);
        return x;
    }

    private static MarloweHost found(String text, int looked, int found) {
        MarloweHost x = Expect.host(text);
        analysed(x, text, MarloweHost.FOUND, looked, found);
        return x;
    }

    private static MarloweHost outside(String text) {
        MarloweHost x = Expect.host(text);
        analysed(x, text, MarloweHost.OUTSIDE, 0, 0);
        return x;
    }

    private static void step(MarloweHost x, int k, long kind, long number, long node) {
        Expect.is("the kind of STEP " + k, kind, () -> x.step(k, 0));
        Expect.is("the number of STEP " + k, number, () -> x.step(k, 1));
        Expect.is("the NODE of STEP " + k, node, () -> x.step(k, 2));
    }

    private static void fromTheState() {
        Expect.sentence("THE ANALYSER looks from the STATE as it is");
        String last = "assert and = use x 3 and = chosen q a 1 = balance a t 4 close";
        MarloweHost x = Expect.host("when [deposit a b t 4 when [choice q a [1 2] let x 3 when [notify true " + last + "] 50 close] 40 close] 30 close");
        // the number 2 is where it is FOUND
        analysed(x, "all of it", MarloweHost.FOUND, 6, 3);
        step(x, 0, 1, 4, 1);
        step(x, 1, 2, 2, 4);
        x.wallet(1, 0, 4);
        x.deposit(0, 1, 0, 4);
        x.choose(0, 1);
        Expect.is("apply", 0, () -> x.apply(7, 7));
        analysed(x, "what is left", MarloweHost.CLEAN, 2, 0);
        MarloweHost y = Expect.host("let x 1 when [] 9 let x 2 close");
        y.apply(0, 0);
        analysed(y, "an X that is USED", MarloweHost.FOUND, 1, 1);
        step(y, 0, 4, 9, -1);
    }

    private static void withoutWallets() {
        Expect.sentence("THE ANALYSER looks .. without WALLETS");
        MarloweHost x = found("when [deposit a b t 5 assert false close] 9 close", 1, 1);
        step(x, 0, 1, 5, 1);
        Expect.is("WALLET", 0, () -> x.state(1, 1, 0));
        // a WALLET of 2 ** 62 takes no part, neither
        MarloweHost y = Expect.host("when [deposit a b t " + HALF + " when [deposit a b t " + HALF + " pay a to b t " + MOST
                + " close] 90 close] 90 close");
        for (int i = 0; i < 2; i++) {
            y.wallet(1, 0, 1L << 61);
            y.deposit(0, 1, 0, 1L << 61);
            Expect.is("apply", 0, () -> y.apply(0, 0));
        }
        Expect.is("WALLET", LARGEST, () -> y.state(1, 1, 0));
        Expect.read(y, "when [deposit a b t " + MOST + " pay a to b t " + MOST + " when [deposit a c t 1 pay a to b t 1 assert false close] 90 close] 80 close");
        analysed(y, "a PAYMENT to a full WALLET", MarloweHost.FOUND, 2, 2);
        Expect.is("WALLET", LARGEST, () -> y.state(1, 1, 0));
    }

    private static void startOrEndIsOutside() {
        Expect.sentence("OUTSIDE: a start or end .. is in what is left of the contract");
        for (String value : new String[] {"start", "end", "neg start", "+ 1 end", "/ start 1", "cond true 1 end", "cond = 1 start 1 1", "(start)"}) {
            outside("let x " + value + " close");
        }
        outside("pay a to b t start close");
        outside("if = 1 end close close");
        outside("assert = 1 start close");
        outside("when [deposit a b t end close] 9 close");
        outside("when [notify = start end close] 9 close");
        // a way that is never gone, too, and before anything is FOUND
        outside("assert false if true close let x start close");
        outside("assert false when [notify false let x end close] 9 close");
        outside("when [] 0 when [] 9 let x end close");
        clean("let start_ 1 let x use end_ close", 1);
    }

    private static void seventeenNumbers() {
        Expect.sentence("OUTSIDE: .. a choice whose bounds have more than 16 numbers");
        clean("when [choice q a [1 16] close] 9 close", 17);
        outside("when [choice q a [1 17] close] 9 close");
        clean("when [choice q a [-8 7] close] 9 close", 17);
        outside("when [choice q a [-8 8] close] 9 close");
        clean("when [choice q a [1 8 21 28] close] 9 close", 17);
        outside("when [choice q a [1 8 21 29] close] 9 close");
        // each choice by itself
        clean("when [choice q a [1 16] close choice q a [1 16] close] 9 close", 33);
        outside("assert false when [choice q a [1 16] close choice r a [1 17] close] 9 close");
        // so many numbers that their count wraps a long or an int around
        outside("when [choice q a [" + "-99999999999999999 99999999999999999 ".repeat(215) + "] close] 9 close");
        outside("when [choice q a [1 4294967296] close] 9 close");
        outside("when [choice q a [1 4294967300] close] 9 close");
        clean("when [choice q a [99999999999999999 99999999999999999] close] 9 close", 2);
    }

    private static void numbersInTwo() {
        Expect.sentence("(those that are in two twice)");
        clean("when [choice q a [1 8 1 8] close] 9 close", 17);
        outside("when [choice q a [1 8 1 9] close] 9 close");
        clean("when [choice q a [" + "5 5 ".repeat(16) + "] close] 9 close", 17);
        outside("when [choice q a [" + "5 5 ".repeat(17) + "] close] 9 close");
        clean("when [choice q a [1 3 2 2] close] 9 close", 5);
    }

    private static void whatIsLeft() {
        Expect.sentence("OUTSIDE: .. in what is left of the contract");
        MarloweHost x = outside("when [notify true when [] 20 close choice q a [1 17] close] 9 let x start when [] 30 close");
        MarloweHost y = Expect.host("when [notify true when [] 20 close choice q a [1 17] close] 9 let x start when [] 30 close");
        x.remind();
        Expect.is("apply", 0, () -> x.apply(0, 0));
        analysed(x, "the first way", MarloweHost.CLEAN, 1, 0);
        Expect.is("apply", 0, () -> y.apply(9, 9));
        analysed(y, "the last way", MarloweHost.CLEAN, 1, 0);
        MarloweHost z = outside("let x start when [notify true close] 9 let y end close");
        Expect.is("apply", 0, () -> z.apply(0, 0));
        analysed(z, "an end is left", MarloweHost.OUTSIDE, 0, 0);
        MarloweHost w = Expect.host("if true when [choice q a [1 16] close] 9 close when [choice q a [1 17] close] 9 close");
        Expect.is("apply", 0, () -> w.apply(0, 0));
        analysed(w, "the other C is not left", MarloweHost.CLEAN, 17, 0);
    }

    private static void timeOfSteps() {
        Expect.sentence("STEPS: TRANSACTIONS with low and high the TIME");
        MarloweHost x = Expect.host("let x 1 when [] 9 when [notify true when [] 8 when [] 10 assert false close] 10 close");
        x.apply(8, 8);
        analysed(x, "at TIME 8", MarloweHost.FOUND, 3, 3);
        step(x, 0, 4, 9, -1);
        step(x, 1, 3, 0, 4);
        step(x, 2, 4, 10, -1);
        Expect.is("the TIME stays", 8, () -> x.state(4, 0, 0));
        clean("when [notify true when [] 0 close] 9 close", 2);
        clean("when [notify true when [] 1 close] 9 close", 3);
    }

    private static void firstWithoutInputs() {
        Expect.sentence("first one without INPUTS if something is REDUCED by it");
        step(found("assert false close", 1, 1), 0, 0, 0, -1);
        step(found("when [deposit a b t 1 close] 0 assert false close", 1, 1), 0, 0, 0, -1);
        MarloweHost x = found("let x 1 when [deposit a b t 0 close] 9 close", 2, 2);
        step(x, 0, 0, 0, -1);
        step(x, 1, 1, 0, 3);
        clean("let x 1 when [] 9 let y 1 close", 2);
        clean("if true close close", 1);
    }

    private static void nothingToDo() {
        Expect.sentence("else, for a when that stays");
        clean("close", 0);
        clean("(close)", 0);
        MarloweHost x = Expect.host("let x 1 close");
        x.apply(0, 0);
        analysed(x, "a close behind a let", MarloweHost.CLEAN, 0, 0);
        clean("when [] 1 close", 1);
        clean("when [] 0 close", 1);
        clean("when [] -1 close", 1);
    }

    private static void eachActionInOrder() {
        Expect.sentence("for a when that stays, for each A in order");
        String[] actions = {"deposit a b t 1", "choice q a [1 2]", "notify true"};
        int[] looked = {1, 2, 1};
        for (int i = 0; i < 3; i++) {
            for (int k = 0; k < 3; k++) {
                if (i != k) {
                    found("when [" + actions[i] + " close " + actions[k] + " assert false close] 9 close", looked[i] + 1, 1);
                    found("when [" + actions[i] + " assert false close " + actions[k] + " assert false close] 9 close", 1, 1);
                }
            }
        }
        MarloweHost x = found("when [" + "notify false close ".repeat(6) + "deposit a b t 1 close deposit a c t 1 assert false close] 9 close", 2, 1);
        step(x, 0, 1, 1, 22);
        // the eighth A alone, and eight that are not tried
        step(found("when [" + "notify false close ".repeat(7) + "notify true assert false close] 9 close", 1, 1), 0, 3, 0, 22);
        step(found("when [" + "notify false close ".repeat(8) + "] 9 assert false close", 1, 1), 0, 4, 9, -1);
        clean("when [" + "choice q a [1 16] close ".repeat(8) + "] 9 close", 8 * 16 + 1);
    }

    private static void depositOfValue() {
        Expect.sentence("deposit: an INPUT with that V");
        step(found("let x 7 when [deposit a b t - use x 2 assert false close] 9 close", 2, 2), 1, 1, 5, 3);
        step(found("when [deposit a b t 0 close] 9 close", 1, 1), 0, 1, 0, 1);
        step(found("when [deposit a b t -3 close] 9 close", 1, 1), 0, 1, -3, 1);
        step(found("when [deposit a b t " + MOST + " assert false close] 9 close", 1, 1), 0, 1, LARGEST, 1);
        step(found("when [deposit a b t neg " + MOST + " close] 9 close", 1, 1), 0, 1, -LARGEST, 1);
        // the first A that fits takes it
        clean("when [deposit a b t 1 close deposit a b t 1 assert false close] 9 close", 3);
    }

    private static void numbersInOrder() {
        Expect.sentence("choice: for each number of its bounds, in order, an INPUT");
        String text = "when [choice q a [5 7 -3 -2 6 6] assert not = chosen q a # close] 9 close";
        int[][] due = {{5, 1}, {6, 2}, {7, 3}, {-3, 4}, {-2, 5}};
        for (int[] row : due) {
            step(found(text.replace("#", Integer.toString(row[0])), row[1], 1), 0, 2, row[0], 1);
        }
        clean(text.replace("#", "4"), 7);
        clean(text.replace("#", "8"), 7);
        // the first A that fits takes it
        clean("when [choice q a [1 3] close choice q a [2 2] assert false close] 9 close", 5);
        step(found("when [choice q a [1 3] close choice q a [2 4] assert false close] 9 close", 6, 1), 0, 2, 4, 3);
    }

    private static void notifyIfTrue() {
        Expect.sentence("notify: one if O is true");
        clean("when [notify false assert false close] 9 close", 1);
        step(found("when [notify true assert false close] 9 close", 1, 1), 0, 3, 0, 1);
        clean("when [notify made q a assert false close] 9 close", 1);
        clean("when [notify false close notify true close notify false close] 9 close", 2);
    }

    private static void notifyOfLarge() {
        Expect.sentence("notify: one if O is true (or LARGE)");
        String large = "notify = 0 " + LARGE;
        clean("when [" + large + " assert false close] 9 close", 2);
        clean("when [notify not = 0 " + LARGE + " assert false close] 9 close", 2);
        clean("when [" + large + " close " + large + " close] 9 close", 3);
        // it is an INPUT as any other: the first A that fits takes it, and none behind one that is LARGE
        clean("when [notify true when [] 20 close " + large + " assert false close] 9 close", 5);
        clean("when [" + large + " close notify true assert false close] 9 close", 3);
        clean("when [notify false close " + large + " close] 9 close", 2);
        found("when [" + large + " close choice q a [1 1] assert false close] 9 close", 2, 1);
    }

    private static void atLastTheTime() {
        Expect.sentence("at last low and high N");
        MarloweHost x = found("when [deposit a b t 1 close choice q a [1 2] close notify true close] 9 assert false close", 5, 1);
        step(x, 0, 4, 9, -1);
        step(found("when [] 99999999999999999 assert false close", 1, 1), 0, 4, 99999999999999999L, -1);
        // more than one when may pass by it
        MarloweHost y = found("when [] 9 when [] 9 when [notify true close] 4 when [] 10 assert false close", 2, 2);
        step(y, 1, 4, 10, -1);
    }

    private static void inDepth() {
        Expect.sentence("In depth: behind each STEP without an ERROR and WARNING it goes on from there, and then takes the next one");
        String inner = "when [choice r a [1 2] close] 20 close";
        clean("when [choice q a [1 3] " + inner + "] 9 " + inner, 3 * 4 + 4);
        MarloweHost x = found("when [choice q a [1 3] when [choice r a [1 2] assert not and = chosen q a 2 = chosen r a 2 close] 20 close] 9 close", 7, 2);
        step(x, 0, 2, 2, 1);
        step(x, 1, 2, 2, 3);
        // what a STEP does is undone before the next one
        clean("when [choice q a [1 2] assert not made r a when [choice r a [1 1] close] 20 close] 9 assert not made q a close", 2 * 3 + 1);
        clean("when [notify true let x 1 close notify false close] 9 let x 1 close", 2);
        clean("when [deposit a b t 1 when [] 20 close] 9 assert = 0 balance a t close", 3);
    }

    private static void eachWarning() {
        Expect.sentence("a STEP with a WARNING: FOUND, with the STEPS that lead to it");
        found("when [deposit a b t 0 close] 9 close", 1, 1);
        found("pay a to b t 0 close", 1, 1);
        found("pay a to b t 1 close", 1, 1);
        found("let x 1 let x 1 close", 1, 1);
        found("assert false close", 1, 1);
        StringBuilder text = new StringBuilder();
        for (int i = 1; i <= 97; i++) {
            text.append("when [] ").append(i).append(' ');
        }
        MarloweHost x = found(text + "assert false close", 97, 97);
        step(x, 0, 4, 1, -1);
        step(x, 96, 4, 97, -1);
        Expect.noIndex("STEP 97", () -> x.step(97, 0));
    }

    private static void errorLeadsNowhere() {
        Expect.sentence("one with an ERROR (LARGE ..) leads nowhere");
        clean("let x " + LARGE + " close", 1);
        clean("assert false let x " + LARGE + " close", 1);
        clean("when [choice q a [1 2] assert false let x " + LARGE + " close] 9 close", 3);
        clean("when [notify true let x " + LARGE + " close] 9 let x " + LARGE + " close", 2);
        // the next one is taken then
        MarloweHost x = found("when [choice q a [1 3] let x * " + MOST + " - 3 chosen q a assert not = chosen q a 2 close] 9 close", 2, 1);
        step(x, 0, 2, 2, 1);
        found("when [notify true let x " + LARGE + " close] 9 assert false close", 2, 1);
    }

    private static void largeDepositLeadsNowhere() {
        Expect.sentence("one with an ERROR (.. V of a deposit, too) leads nowhere");
        clean("when [deposit a b t " + LARGE + " assert false close] 9 close", 2);
        clean("when [deposit a b t + " + MOST + " 1 assert false close] 9 close", 2);
        clean("when [deposit a b t neg " + LARGE + " assert false close] 9 close", 2);
        // no INPUT of it is there for another A to take
        clean("when [deposit a b t 0 close] 0 when [deposit a b t 1 close deposit a b t " + LARGE + " assert false close] 9 close", 4);
        clean("when [deposit a b t " + LARGE + " close deposit a b t 1 assert false close] 9 close", 3);
        found("when [deposit a b t " + LARGE + " close deposit b b t 1 assert false close] 9 close", 2, 1);
    }

    private static void largeAccountLeadsNowhere() {
        Expect.sentence("one with an ERROR (LARGE ..) leads nowhere: an ACCOUNT");
        clean("when [deposit a b t " + MOST + " when [deposit a b t 1 assert false close] 20 close] 9 close", 4);
        // 2 ** 62 to 2 ** 62 wraps around
        clean("when [deposit a b t " + MOST + " when [deposit a b t " + MOST + " assert false close] 20 close] 9 close", 4);
        clean("when [deposit a b t " + MOST + " when [deposit c b t " + MOST + " pay a into c t " + MOST + " assert false close] 20 close] 9 close", 4);
        found("when [deposit a b t " + HALF + " when [deposit a b t " + HALF + " assert false close] 20 close] 9 close", 2, 2);
    }

    /** A when with so many numbers and a TIME, each number with the rest behind it. */
    private static String ways(int most, String rest) {
        return "when [choice q a [1 " + most + "] " + rest + "] 90 close";
    }

    private static void fuel() {
        Expect.sentence("More than 5,000 STEPS: OUT OF FUEL (the one too many is counted)");
        // 4641 + 1, 289 + 1, and 1 with 67 behind it: 5,000
        String first = ways(16, ways(16, ways(16, "close")));
        String second = ways(16, ways(16, "close"));
        String last = "when [choice q a [1 6] when [choice q a [1 9] close] 99 close] 99 close";
        String text = "when [choice r a [1 1] " + first + " choice s a [1 1] " + second + "] 50 " + last;
        clean(first, 4641);
        clean(second, 289);
        clean(last, 67);
        clean(text, 5000);
        MarloweHost x = Expect.host("let x 1 " + text);
        analysed(x, "one STEP more", MarloweHost.FUEL, 5001, 0);
        Expect.noIndex("none is FOUND", () -> x.step(0, 0));
        String warned = text.substring(0, text.length() - "close".length()) + "assert false close";
        found(warned, 5000, 2);
        MarloweHost y = Expect.host("let x 1 " + warned);
        analysed(y, "a WARNING of the one too many", MarloweHost.FUEL, 5001, 0);
        MarloweHost z = Expect.host(ways(16, ways(16, ways(16, ways(16, "close")))));
        analysed(z, "many more", MarloweHost.FUEL, 5001, 0);
        // an ERROR of a STEP uses fuel, too
        String less = text.replace("[1 6]", "[1 5]").replace("[1 9]", "[1 11]");
        clean(less, 4999);
        clean("when [] 40 " + less, 5000);
        MarloweHost w = Expect.host("when [notify = 0 " + LARGE + " close] 40 " + less);
        analysed(w, "an ERROR before", MarloweHost.FUEL, 5001, 0);
    }
}
