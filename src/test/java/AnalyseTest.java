/** Promises 13 to 15: analyse, step, count. */
public final class AnalyseTest {
    private static final String BIG = "* 99999999999999999 99999999999999999";

    public static void main(String[] args) {
        needsContract();
        clean();
        eachWarning();
        aloneFirst();
        order();
        timeStep();
        triedForOneTakenByAnother();
        largeLeadsNowhere();
        outside();
        fuel();
        deep();
        fromWhereItStands();
        withoutWallets();
        leavesAllElse();
        againTheSame();
        stepArguments();
        countArguments();
        Expect.finish();
    }

    private static void analysed(MarloweHost x, String text, int answer, int looked, int found) {
        Expect.is("analyse() of " + text, answer, x::analyse);
        Expect.is("STEPS looked at in " + text, looked, () -> x.count(9));
        Expect.is("STEPS found in " + text, found, () -> x.count(10));
    }

    private static MarloweHost analysed(String text, int answer, int looked, int found) {
        MarloweHost x = Expect.host(text);
        analysed(x, text, answer, looked, found);
        return x;
    }

    private static void stepIs(MarloweHost x, int k, long kind, long number, long node) {
        Expect.is("kind of STEP " + k, kind, () -> x.step(k, 0));
        Expect.is("number of STEP " + k, number, () -> x.step(k, 1));
        Expect.is("NODE of STEP " + k, node, () -> x.step(k, 2));
    }

    private static void needsContract() {
        MarloweHost x = analysed("assert false close", MarloweHost.FOUND, 1, 1);
        Expect.read(x, "?");
        Expect.noState("analyse()", x::analyse);
        Expect.is("what throws leaves the latest one", 1, () -> x.count(10));
        stepIs(x, 0, 0, 0, -1);
    }

    private static void clean() {
        analysed("close", MarloweHost.CLEAN, 0, 0);
        analysed("let x 1 close", MarloweHost.CLEAN, 1, 0);
        analysed("when [] 5 close", MarloweHost.CLEAN, 1, 0);
        analysed("when [] 0 close", MarloweHost.CLEAN, 1, 0);
        analysed("when [deposit a b t 5 close] 5 close", MarloweHost.CLEAN, 2, 0);
        analysed("when [notify false close] 5 close", MarloweHost.CLEAN, 1, 0);
        analysed("when [choice q a [1 3 3 4] close] 5 close", MarloweHost.CLEAN, 6, 0);
    }

    private static void eachWarning() {
        stepIs(analysed("when [deposit a b t 0 close] 5 close", MarloweHost.FOUND, 1, 1), 0, 1, 0, 1);
        stepIs(analysed("when [deposit a b t -7 close] 5 close", MarloweHost.FOUND, 1, 1), 0, 1, -7, 1);
        stepIs(analysed("pay a to b t 0 close", MarloweHost.FOUND, 1, 1), 0, 0, 0, -1);
        stepIs(analysed("pay a into b t 1 close", MarloweHost.FOUND, 1, 1), 0, 0, 0, -1);
        stepIs(analysed("let x 1 let x 1 close", MarloweHost.FOUND, 1, 1), 0, 0, 0, -1);
        stepIs(analysed("assert false close", MarloweHost.FOUND, 1, 1), 0, 0, 0, -1);
        stepIs(analysed("when [] 0 assert false close", MarloweHost.FOUND, 1, 1), 0, 0, 0, -1);
        stepIs(analysed("when [] -5 assert false close", MarloweHost.FOUND, 1, 1), 0, 0, 0, -1);
        stepIs(analysed("when [] 1 assert false close", MarloweHost.FOUND, 1, 1), 0, 4, 1, -1);
        stepIs(analysed("when [notify true assert false close] 5 close", MarloweHost.FOUND, 1, 1), 0, 3, 0, 1);
    }

    /** A STEP without INPUTS comes alone, and all that follows it stands behind it. */
    private static void aloneFirst() {
        MarloweHost x = analysed("let x 3 when [deposit a b t use x when [choice q a [5 6] assert = 5 chosen q a close] 9 close] 5 close",
                MarloweHost.FOUND, 4, 3);
        stepIs(x, 0, 0, 0, -1);
        stepIs(x, 1, 1, 3, 3);
        stepIs(x, 2, 2, 6, 6);
    }

    private static void order() {
        String text = "when [notify not made q a when [] 8 close choice q a [4 5 -2 -1] when [notify = chosen q a -1 assert false close] 9 close"
                + " deposit a b t 3 close] 5 close";
        // notify, then 8; 4, 5, -2 each with 9 behind it; -1 and its notification
        MarloweHost x = analysed(text, MarloweHost.FOUND, 2 + 6 + 2, 2);
        stepIs(x, 0, 2, -1, 6);
        stepIs(x, 1, 3, 0, 8);
        stepIs(analysed("when [" + "notify false close ".repeat(7) + "notify true assert false close] 9 close", MarloweHost.FOUND, 1, 1), 0, 3, 0, 22);
    }

    private static void timeStep() {
        MarloweHost x = analysed("when [] 5 when [] 5 when [] 3 when [deposit a b t 1 close] 7 assert false close", MarloweHost.FOUND, 3, 2);
        stepIs(x, 0, 4, 5, -1);
        stepIs(x, 1, 4, 7, -1);
    }

    private static void triedForOneTakenByAnother() {
        // the INPUT of the second A is taken by the first one
        analysed("when [deposit a b t 3 close deposit a b t 3 assert false close] 5 close", MarloweHost.CLEAN, 3, 0);
        analysed("when [choice q a [1 2] close choice q a [2 2] assert false close] 5 close", MarloweHost.CLEAN, 4, 0);
        analysed("when [notify true close notify true assert false close] 5 close", MarloweHost.CLEAN, 3, 0);
        MarloweHost x = analysed("when [choice q a [1 2] when [notify = chosen q a 9 close] 6 close choice q a [9 9 2 3] assert = chosen q a 9 close] 5 close",
                MarloweHost.FOUND, 8, 1);
        stepIs(x, 0, 2, 3, 9);
    }

    private static void largeLeadsNowhere() {
        analysed("let x " + BIG + " assert false close", MarloweHost.CLEAN, 1, 0);
        analysed("assert false let x " + BIG + " close", MarloweHost.CLEAN, 1, 0);
        analysed("when [deposit a b t " + BIG + " assert false close] 5 close", MarloweHost.CLEAN, 2, 0);
        analysed("when [notify = 0 " + BIG + " assert false close] 5 close", MarloweHost.CLEAN, 2, 0);
        // the V before it is LARGE, so the INPUT has an ERROR; of others it is not reckoned
        analysed("when [deposit a b t " + BIG + " close deposit a b t 1 assert false close] 5 close", MarloweHost.CLEAN, 3, 0);
        analysed("when [deposit a b t " + BIG + " close deposit b a t 1 assert false close] 5 close", MarloweHost.FOUND, 2, 1);
        // the notification for the second A is taken by the first one
        analysed("when [notify true when [] 7 close notify = 0 " + BIG + " close] 5 close", MarloweHost.CLEAN, 5, 0);
        // an ACCOUNT is LARGE by the third deposit
        String half = "deposit a b t * 2147483648 1073741824 ";
        analysed("when [" + half + "when [" + half + "when [" + half + "assert false close] 9 close] 8 close] 7 close", MarloweHost.CLEAN, 6, 0);
    }

    private static void outside() {
        analysed("let x start close", MarloweHost.OUTSIDE, 0, 0);
        analysed("let x neg end close", MarloweHost.OUTSIDE, 0, 0);
        analysed("assert false if true close assert = 1 end close", MarloweHost.OUTSIDE, 0, 0);
        analysed("when [deposit a b t start close] 5 close", MarloweHost.OUTSIDE, 0, 0);
        analysed("when [notify = 0 start close] 5 close", MarloweHost.OUTSIDE, 0, 0);
        analysed("when [choice q a [1 16] close] 5 close", MarloweHost.CLEAN, 17, 0);
        analysed("when [choice q a [1 17] close] 5 close", MarloweHost.OUTSIDE, 0, 0);
        analysed("when [choice q a [1 8 1 8] close] 5 close", MarloweHost.CLEAN, 17, 0);
        analysed("when [choice q a [1 8 1 9] close] 5 close", MarloweHost.OUTSIDE, 0, 0);
        analysed("when [choice q a [" + "1 1 ".repeat(17) + "] close] 5 close", MarloweHost.OUTSIDE, 0, 0);
        analysed("when [choice q a [1 16] close choice q a [1 16] close] 5 close", MarloweHost.CLEAN, 33, 0);
        String widest = "-99999999999999999 99999999999999999 ";
        analysed("when [choice q a [" + widest.repeat(100) + "] close] 5 close", MarloweHost.OUTSIDE, 0, 0);
        MarloweHost x = analysed("assert false when [notify true let x start close] 5 when [choice q a [1 2] close] 6 close", MarloweHost.OUTSIDE, 0, 0);
        x.apply(5, 5);
        analysed(x, "what is left", MarloweHost.CLEAN, 3, 0);
        MarloweHost y = Expect.host("when [notify true when [] 9 close] 5 let x start close");
        y.remind();
        y.apply(0, 0);
        analysed(y, "what is left", MarloweHost.CLEAN, 1, 0);
        MarloweHost z = analysed("assert false close", MarloweHost.FOUND, 1, 1);
        Expect.read(z, "let x start close");
        analysed(z, "a start behind what was FOUND", MarloweHost.OUTSIDE, 0, 0);
        Expect.noIndex("no STEP is FOUND", () -> z.step(0, 0));
    }

    /** 16 ways and a time, each way with what is given behind it. */
    private static String ways(int most, String rest) {
        return "when [choice q a [1 " + most + "] " + rest + "] 90 close";
    }

    private static void fuel() {
        String large = ways(16, ways(16, ways(16, "close")));
        String small = ways(16, ways(16, "close"));
        analysed(large, MarloweHost.CLEAN, 4641, 0);
        analysed(small, MarloweHost.CLEAN, 289, 0);
        String rest = ways(6, ways(9, "close")).replace("90", "99");
        String text = "when [choice r a [1 1] " + large + " choice s a [1 1] " + small + "] 50 " + rest;
        analysed(text, MarloweHost.CLEAN, 5000, 0);
        analysed("let x 1 " + text, MarloweHost.FUEL, 5001, 0);
        // the STEP that is one too many is not looked at, warning or not
        analysed(text.replaceFirst("99 close$", "99 assert false close"), MarloweHost.FOUND, 5000, 2);
        analysed("let x 1 " + text.replaceFirst("99 close$", "99 assert false close"), MarloweHost.FUEL, 5001, 0);
        MarloweHost x = analysed(ways(16, large), MarloweHost.FUEL, 5001, 0);
        Expect.noIndex("none is FOUND", () -> x.step(0, 0));
        analysed(x, "the same again", MarloweHost.FUEL, 5001, 0);
    }

    private static void deep() {
        StringBuilder text = new StringBuilder();
        for (int i = 1; i <= 97; i++) {
            text.append("when [] ").append(i).append(' ');
        }
        MarloweHost x = analysed(text + "assert false close", MarloweHost.FOUND, 97, 97);
        stepIs(x, 96, 4, 97, -1);
        Expect.noIndex("behind the last one", () -> x.step(97, 0));
        MarloweHost y = analysed("let x 1 " + text + "close", MarloweHost.CLEAN, 98, 0);
        Expect.is("apply", 0, () -> y.apply(97, 97));
        Expect.is("NODE", 99, () -> y.count(0));
        MarloweHost z = analysed("when [] 1 let x 1 " + text.substring(text.indexOf("2") - 8) + "pay a to b t 1 close", MarloweHost.FOUND, 97, 97);
        stepIs(z, 0, 4, 1, -1);
    }

    private static void fromWhereItStands() {
        MarloweHost x = Expect.host("when [deposit a b t 3 when [notify true pay a to b t - 4 chosen q a close] 9 close choice q a [1 1] when [] 8 close] 5 close");
        analysed(x, "all of it", MarloweHost.FOUND, 2, 2);
        x.wallet(1, 0, 3);
        x.deposit(0, 1, 0, 3);
        x.apply(4, 4);
        analysed(x, "behind the deposit", MarloweHost.FOUND, 1, 1);
        stepIs(x, 0, 3, 0, 4);
        MarloweHost y = Expect.host("when [] 5 when [] 7 assert false close");
        y.apply(6, 6);
        analysed(y, "at TIME 6", MarloweHost.FOUND, 1, 1);
        stepIs(y, 0, 4, 7, -1);
    }

    private static void withoutWallets() {
        MarloweHost x = analysed("when [deposit a b t 1000 pay a to b t 1000 assert false close] 5 close", MarloweHost.FOUND, 1, 1);
        stepIs(x, 0, 1, 1000, 1);
        MarloweHost y = Expect.host("when [deposit a b t 1 pay a to b t 1 assert false close] 5 close");
        y.wallet(1, 0, 1L << 61);
        analysed(y, "with a full WALLET", MarloweHost.FOUND, 1, 1);
        Expect.is("the WALLET stays", 1L << 61, () -> y.state(1, 1, 0));
    }

    private static void leavesAllElse() {
        MarloweHost x = Expect.host("assert false let x 1 when [deposit a b t 0 let x 2 close] 5 close");
        x.apply(1, 2);
        x.remind();
        analysed(x, "a contract", MarloweHost.FOUND, 1, 1);
        Expect.is("INPUTS", 1, () -> x.count(6));
        Expect.is("WARNINGS", 1, () -> x.count(7));
        Expect.is("WARNING", 5, () -> x.told(0, 0));
        Expect.is("NODE", 4, () -> x.count(0));
        Expect.is("TIME", 1, () -> x.state(4, 0, 0));
        Expect.is("USED", 1, () -> x.state(3, 0, 0));
        Expect.read(x, "close");
        Expect.is("end() leaves the STEPS", 1, () -> x.count(9));
        stepIs(x, 0, 1, 0, 5);
    }

    private static void againTheSame() {
        String text = "when [choice q a [1 4] when [choice r a [5 9] assert < + chosen q a chosen r a 10 close] 9 close] 8 close";
        MarloweHost x = Expect.host(text);
        for (int i = 0; i < 3; i++) {
            analysed(x, text, MarloweHost.FOUND, 6, 2);
            stepIs(x, 0, 2, 1, 1);
            stepIs(x, 1, 2, 9, 3);
        }
    }

    private static void stepArguments() {
        MarloweHost x = new MarloweHost();
        Expect.noIndex("step(0, 0)", () -> x.step(0, 0));
        Expect.noArgument("step(0, 3)", () -> x.step(0, 3));
        Expect.noArgument("step(-1, -1)", () -> x.step(-1, -1));
        MarloweHost y = Expect.host("when [] 5 assert false close");
        y.analyse();
        stepIs(y, 0, 4, 5, -1);
        for (int what = 0; what < 3; what++) {
            int w = what;
            Expect.noIndex("step(1, " + w + ")", () -> y.step(1, w));
            Expect.noIndex("step(-1, " + w + ")", () -> y.step(-1, w));
            Expect.noIndex("step(most, " + w + ")", () -> y.step(Integer.MAX_VALUE, w));
            Expect.noIndex("step(least, " + w + ")", () -> y.step(Integer.MIN_VALUE, w));
        }
        Expect.noArgument("step(0, -1)", () -> y.step(0, -1));
        Expect.noArgument("step(0, 3)", () -> y.step(0, 3));
    }

    private static void countArguments() {
        MarloweHost x = Expect.host("pay a to b t 1 let x chosen q c let y chosen r c let z balance d u close");
        int[] due = {0, 9, 4, 2, 2, 3, 0, 0, 0, 0, 0};
        for (int what = 0; what < due.length; what++) {
            int w = what;
            Expect.is("count(" + w + ")", due[w], () -> x.count(w));
        }
        Expect.noArgument("count(-1)", () -> x.count(-1));
        Expect.noArgument("count(11)", () -> x.count(11));
        Expect.noArgument("count(most)", () -> x.count(Integer.MAX_VALUE));
        Expect.noArgument("count(least)", () -> x.count(Integer.MIN_VALUE));
        x.remind();
        x.apply(0, 0);
        Expect.is("INPUTS", 0, () -> x.count(6));
        x.apply(0, 0);
        Expect.is("NODE left", 8, () -> x.count(0));
        Expect.is("NODES", 9, () -> x.count(1));
        Expect.is("WARNINGS", 1, () -> x.count(7));
    }
}
