/** Promises 1 to 4: a new object, feed, end, wrong. */
public final class TextTest {
    public static void main(String[] args) {
        newObject();
        feedCounts();
        feedOrder();
        endBounds();
        endStartsAnew();
        namesStartAnew();
        boundsStartAnew();
        wrongEndsContract();
        grammar();
        tokens();
        wrongTokens();
        wrongOctets();
        names();
        bounds();
        nodesLimit();
        nestingLimit();
        actionsLimit();
        numbering();
        Expect.finish();
    }

    private static void newObject() {
        MarloweHost x = new MarloweHost();
        Expect.is("wrong()", -1, x::wrong);
        Expect.is("count(0)", -1, () -> x.count(0));
        for (int what = 1; what <= 10; what++) {
            int w = what;
            Expect.is("count(" + w + ")", 0, () -> x.count(w));
        }
        for (int party = 0; party < 8; party++) {
            for (int token = 0; token < 4; token++) {
                int p = party;
                int t = token;
                Expect.is("state(1, " + p + ", " + t + ")", 0, () -> x.state(1, p, t));
            }
        }
        Expect.noState("state(0, 0, 0)", () -> x.state(0, 0, 0));
        Expect.noState("apply(0, 0)", () -> x.apply(0, 0));
        Expect.noState("analyse()", x::analyse);
        Expect.noIndex("end(1)", () -> x.end(1));
        Expect.is("wrong()", -1, x::wrong);
        Expect.noArgument("end(0)", () -> x.end(0));
        Expect.is("wrong()", 0, x::wrong);
    }

    private static void feedCounts() {
        MarloweHost x = new MarloweHost();
        for (int i = 1; i <= 410; i++) {
            Expect.is("feed " + i, 20L * i, () -> x.feed(0, 0, 0, 0, 0));
        }
        Expect.noIndex("feed 411", () -> x.feed(0, 0, 0, 0, 0));
        Expect.noIndex("end(8193)", () -> x.end(8193));
        Expect.noIndex("feed 412", () -> x.feed(0, 0, 0, 0, 0));
        Expect.noArgument("end(8192)", () -> x.end(8192));
        Expect.is("feed of the next text", 20, () -> x.feed(0, 0, 0, 0, 0));
    }

    private static void feedOrder() {
        int blanks = 0x20202020;
        for (int at = 0; at < 20; at++) {
            int[] f = {blanks, blanks, blanks, blanks, blanks};
            f[at / 4] ^= 0xE0 << (24 - 8 * (at % 4));
            MarloweHost x = new MarloweHost();
            x.feed(f[0], f[1], f[2], f[3], f[4]);
            Expect.noArgument("end(20) with an octet of 192", () -> x.end(20));
            Expect.is("wrong() with an octet of 192", at, x::wrong);
        }
    }

    private static void endBounds() {
        MarloweHost x = Expect.host("close");
        Expect.feed(x, "let u 4 close  close");
        x.remind();
        Expect.noIndex("end(-1)", () -> x.end(-1));
        Expect.noIndex("end(21)", () -> x.end(21));
        Expect.noIndex("end(least)", () -> x.end(Integer.MIN_VALUE));
        Expect.noIndex("end(most)", () -> x.end(Integer.MAX_VALUE));
        Expect.is("count(1), all stays", 1, () -> x.count(1));
        Expect.is("count(6), all stays", 1, () -> x.count(6));
        Expect.is("wrong(), all stays", -1, x::wrong);
        Expect.is("end(13)", 3, () -> x.end(13));
        Expect.noIndex("end(1), nothing is fed", () -> x.end(1));
        String longest = "close" + " ".repeat(8187);
        MarloweHost y = new MarloweHost();
        Expect.same("end(8192)", "1", Expect.read(y, longest));
    }

    private static void endStartsAnew() {
        MarloweHost x = new MarloweHost();
        x.wallet(1, 0, 10);
        Expect.read(x, "when [deposit a b t 4 when [choice q a [1 2] let u 5 when [] 90 close] 80 close] 70 close");
        x.deposit(0, 1, 0, 4);
        x.choose(0, 2);
        Expect.is("apply", 0, () -> x.apply(3, 3));
        Expect.is("TIME", 3, () -> x.state(4, 0, 0));
        Expect.is("ACCOUNT", 4, () -> x.state(0, 0, 0));
        Expect.is("CHOSEN", 2, () -> x.state(2, 0, 0));
        Expect.is("USED", 5, () -> x.state(3, 0, 0));
        x.remind();
        Expect.same("end", "6", Expect.read(x, "let u chosen q a if made q a close close"));
        Expect.is("TIME", 0, () -> x.state(4, 0, 0));
        Expect.is("ACCOUNT", 0, () -> x.state(0, 0, 0));
        Expect.is("CHOSEN", 0, () -> x.state(2, 0, 0));
        Expect.is("USED", 0, () -> x.state(3, 0, 0));
        Expect.is("INPUTS", 0, () -> x.count(6));
        Expect.is("NODE", 0, () -> x.count(0));
        Expect.is("WALLET stays", 6, () -> x.state(1, 1, 0));
        Expect.is("apply", 0, () -> x.apply(0, 0));
        Expect.is("u was not USED: no WARNING", 0, () -> x.count(7));
        Expect.is("q was not made", 5, () -> x.count(0));
    }

    private static void namesStartAnew() {
        MarloweHost x = new MarloweHost();
        for (String prefix : new String[] {"a", "b", "c"}) {
            StringBuilder text = new StringBuilder();
            for (int i = 0; i < 8; i++) {
                String name = prefix + i;
                text.append("let ").append(name).append(" + balance ").append(name).append(' ').append(prefix).append(i % 4)
                        .append(" chosen ").append(name).append(' ').append(name).append(' ');
            }
            Expect.same("end", "33", Expect.read(x, text + "close"));
            Expect.is("PARTIES", 8, () -> x.count(2));
            Expect.is("TOKENS", 4, () -> x.count(3));
            Expect.is("CHOICES", 8, () -> x.count(4));
            Expect.is("X", 8, () -> x.count(5));
        }
        Expect.read(x, "pay c5 to a c2 1 close");
        Expect.is("PARTIES", 2, () -> x.count(2));
        Expect.is("TOKENS", 1, () -> x.count(3));
        Expect.is("CHOICES", 0, () -> x.count(4));
        Expect.is("X", 0, () -> x.count(5));
    }

    private static void boundsStartAnew() {
        MarloweHost x = new MarloweHost();
        for (int pairs : new int[] {1700, 700}) {
            Expect.same("end", "4", Expect.read(x, "when [choice q a [" + "1 1 ".repeat(pairs) + "] close] 1 close"));
        }
    }

    private static void wrongEndsContract() {
        MarloweHost x = Expect.host("when [] 5 close");
        x.wallet(3, 3, 8);
        x.remind();
        Expect.same("end", "throws.IllegalArgumentException", Expect.read(x, "close close"));
        Expect.is("wrong()", 6, x::wrong);
        Expect.is("NODE", -1, () -> x.count(0));
        for (int what = 1; what <= 6; what++) {
            int w = what;
            Expect.is("count(" + w + ")", 0, () -> x.count(w));
        }
        Expect.is("WALLET stays", 8, () -> x.state(1, 3, 3));
        Expect.noState("state", () -> x.state(4, 0, 0));
        Expect.noState("apply", () -> x.apply(0, 0));
        Expect.noIndex("what was fed is nothing", () -> x.end(1));
        Expect.same("end", "1", Expect.read(x, "close"));
        Expect.is("wrong()", -1, x::wrong);
    }

    private static void grammar() {
        Expect.nodes("close", 1);
        Expect.nodes(" \n close \n", 1);
        Expect.nodes("((close))", 1);
        Expect.nodes("pay a to b t 1 close", 3);
        Expect.nodes("pay a into b t 1 close", 3);
        Expect.nodes("if true close close", 4);
        Expect.nodes("when [] 1 close", 2);
        Expect.nodes("when[]1close", 2);
        Expect.nodes("when [notify true close] -1 close", 5);
        Expect.nodes("when [deposit a b t 1 close choice q a [1 2 3 4] close notify (false) close] 1 close", 10);
        Expect.nodes("let x 1 close", 3);
        Expect.nodes("assert true close", 3);
        String[] values = {"1", "-1", "balance a t", "neg 1", "+ 1 2", "- 1 2", "* 1 2", "/ 1 2", "chosen q a", "use x",
            "start", "end", "cond true 1 2", "(1)", "((neg (1)))", "-1", "- -1-2", "+1 2", "-(1)2"};
        int[] valueNodes = {1, 1, 1, 2, 3, 3, 3, 3, 1, 1, 1, 1, 4, 1, 2, 1, 3, 3, 3};
        for (int i = 0; i < values.length; i++) {
            Expect.nodes("let x " + values[i] + " close", 2 + valueNodes[i]);
        }
        String[] truths = {"true", "false", "and true false", "or true false", "not true", "made q a", ">= 1 2", "> 1 2",
            "< 1 2", "<= 1 2", "= 1 2", "(true)", "<=1-2", "<(1)(2)"};
        int[] truthNodes = {1, 1, 3, 3, 2, 1, 3, 3, 3, 3, 3, 1, 3, 3};
        for (int i = 0; i < truths.length; i++) {
            Expect.nodes("assert " + truths[i] + " close", 2 + truthNodes[i]);
        }
    }

    private static void tokens() {
        Expect.nodes("let Close 1 let close1 2 let _ 3 let closeclose 4 let TRUE 5 close", 11);
        // 16 letters are one name, the 17th begins the next token
        Expect.nodes("pay a to aaaaaaaaaaaaaaaa t 1 close", 3);
        Expect.nodes("pay a to aaaaaaaaaaaaaaaat 1 close", 3);
        Expect.nodes("let aaaaaaaaaaaaaaaa1 close", 3);
        Expect.nodes("let a1234567890123456 close", 3);
        Expect.wrongAtBar("let aaaaaaaaaaaaaaaa|a 1 close");
        // 17 digits are one number, the 18th begins the next one
        Expect.nodes("let x 12345678901234567 close", 3);
        Expect.nodes("let x -12345678901234567 close", 3);
        Expect.nodes("let x + 123456789012345678 close", 5);
        Expect.nodes("let x + -12345678901234567-8 close", 5);
        Expect.wrongAtBar("let x 12345678901234567|8 close");
        Expect.wrongAtBar("let x -12345678901234567|8 close");
        MarloweHost x = Expect.host("let x 12345678901234567 let y -12345678901234567 let z 007 let w -0 close");
        x.apply(0, 0);
        Expect.is("x", 12345678901234567L, () -> x.state(3, 0, 0));
        Expect.is("y", -12345678901234567L, () -> x.state(3, 1, 0));
        Expect.is("z", 7, () -> x.state(3, 2, 0));
        Expect.is("w", 0, () -> x.state(3, 3, 0));
        for (char c = 'A'; c <= 'z'; c++) {
            if (Character.isLetter(c)) {
                Expect.nodes("let " + c + " 1 let a" + c + "0 1 let _" + c + "9_" + c + " 1 close", 7);
            }
        }
        for (char c = '0'; c <= '9'; c++) {
            Expect.nodes("let a" + c + " " + c + " close", 3);
        }
        endsInside("closed", 5, -1);
        endsInside("close2", 5, -1);
        endsInside("let x 12", 7, 7);
        endsInside("let x -1", 7, 7);
        endsInside("assert <=", 8, 8);
        endsInside("assert <=", 9, 9);
        endsInside("assert >=", 9, 9);
        endsInside("pay  ", 4, 4);
        Expect.wrongAtBar("assert < |= 1 2 close");
        Expect.wrongAtBar("assert =|= 1 2 close");
        Expect.wrongAtBar("let x - |close");
        Expect.wrongAtBar("let x --1 |close");
    }

    /** THE TEXT is the first octets of what is fed, and no token reaches behind it. */
    private static void endsInside(String fed, int octets, int wrong) {
        MarloweHost x = new MarloweHost();
        Expect.feed(x, fed);
        Expect.same("end(" + octets + ") of " + fed, wrong < 0 ? "1" : "throws.IllegalArgumentException", Expect.answer(() -> x.end(octets)));
        Expect.is("wrong()", wrong, x::wrong);
    }

    private static void wrongTokens() {
        Expect.wrong("", 0);
        Expect.wrong("   ", 3);
        Expect.wrong("pay a", 5);
        Expect.wrong("pay a \n ", 8);
        String[] texts = {"|a", "|1", "|true", "|)", "|]", "|deposit a a t 1", "|!", "close |close", "close |)", "(close |",
            "(close |]", "(|)", "pay |1", "pay |close", "pay a |b", "pay a to |into", "pay a to b |to", "pay a to b t |close",
            "pay a to b t 1 |2", "pay a to b t 1 |", "if |close", "if |1", "if true close |", "if true close |1",
            "when |close", "when [|close", "when [|", "when [] |close", "when [] 5 |", "when [] |-close", "when [deposit |when",
            "when [deposit a |]", "when [deposit a b |1", "when [deposit a b t |]", "when [deposit a b t 1 |]",
            "when [deposit a b t 1 |notify", "when [notify |1", "when [choice |[", "when [choice q |[", "when [choice q a |1",
            "when [choice q a [|]", "when [choice q a [1 |]", "when [choice q a [1 2 3 |]", "when [choice q a [1 2 |a",
            "let |1", "let |use 1 close", "let x |close", "let x 1 |", "let x |true", "let x neg |true", "let x balance a |",
            "let x balance |neg", "let x chosen q |made", "let x use |end", "let x cond |1", "let x cond true 1 |close",
            "let x (1 |2", "let x (|)", "assert |1", "assert not |1", "assert and true |1", "assert made q |1",
            "assert < 1 |true", "assert (true |close", "assert |deposit", "let x |#1 close", "let x 1|.5 close",
            "pay a to b t |to close", "let x |notify close", "assert |cond true true true close", "assert |close"};
        for (String text : texts) {
            Expect.wrongAtBar(text);
        }
        for (String key : ("close pay to into if when let assert deposit choice notify balance neg chosen use start end cond "
                + "true false and or not made").split(" ")) {
            Expect.wrongAtBar("let |" + key + " 1 close");
            Expect.nodes("let " + key + "_ 1 close", 3);
            Expect.nodes("let " + key.toUpperCase() + " 1 close", 3);
        }
    }

    private static void wrongOctets() {
        for (int octet = 0; octet < 256; octet++) {
            boolean right = octet == 10 || (octet >= 32 && octet <= 126);
            String text = "close 7 " + (char) octet;
            Expect.wrong(text, right ? 6 : 8);
        }
        Expect.wrong("close \t\r", 6);
        Expect.wrong("\tclose", 0);
        Expect.wrong("\u00e4", 0);
        Expect.nodes("close\n\n", 1);
        MarloweHost x = new MarloweHost();
        Expect.feed(x, "close\t");
        Expect.is("octets behind THE TEXT do not count", 1, () -> x.end(5));
    }

    private static void names() {
        StringBuilder parties = new StringBuilder();
        StringBuilder tokens = new StringBuilder();
        StringBuilder choices = new StringBuilder();
        StringBuilder variables = new StringBuilder();
        for (int i = 0; i < 8; i++) {
            parties.append("pay p").append(i).append(" to p0 t 1 ");
            choices.append("assert made q").append(i / 2).append(" p").append(i % 2).append(" ");
            variables.append("let x").append(i).append(" use x0 ");
            if (i < 4) {
                tokens.append("pay a to a t").append(i).append(" 1 ");
            }
        }
        counts(parties + "close", 8, 1, 0, 0);
        counts(tokens + "close", 1, 4, 0, 0);
        counts(choices + "close", 2, 0, 8, 0);
        counts(variables + "close", 0, 0, 0, 8);
        counts(parties + "pay p7 into p3 t 1 close", 8, 1, 0, 0);
        counts("let a balance a a let b chosen a a close", 1, 1, 1, 2);
        counts("pay a to a\nt 1 pay a2 to b t 1 close", 3, 1, 0, 0);
        counts("pay ab to ac t 1 pay abc to a t 1 pay aB to AB t1 1 close", 6, 2, 0, 0);
        counts("when [choice q a[1 1]close choice q a [1 1] close choice a q[1 1] close] 1 close", 2, 0, 2, 0);
        Expect.wrongAtBar(parties + "pay |p8 to p0 t 1 close");
        Expect.wrongAtBar(parties + "pay p0 to |p8 t 1 close");
        Expect.wrongAtBar(parties + "let x balance |p8 t close");
        Expect.wrongAtBar(parties + "assert made q |p8 close");
        Expect.wrongAtBar(tokens + "pay a to a |t4 1 close");
        Expect.wrongAtBar(tokens + "let x balance a |t4 close");
        Expect.wrongAtBar(choices + "assert made |q4 p0 close");
        Expect.wrongAtBar(choices + "assert made |q0 p2 close");
        Expect.wrongAtBar(choices + "let x chosen |q0 p2 close");
        Expect.wrongAtBar(choices + "when [choice |q0 p2 [1 2] close] 1 close");
        Expect.wrongAtBar(variables + "let |x8 1 close");
        Expect.wrongAtBar(variables + "let x0 use |x8 close");
    }

    private static void counts(String text, int parties, int tokens, int choices, int variables) {
        MarloweHost x = Expect.host(text);
        Expect.is("PARTIES of " + text, parties, () -> x.count(2));
        Expect.is("TOKENS of " + text, tokens, () -> x.count(3));
        Expect.is("CHOICES of " + text, choices, () -> x.count(4));
        Expect.is("X of " + text, variables, () -> x.count(5));
    }

    private static void bounds() {
        Expect.nodes("when [choice q a [1 1] close] 1 close", 4);
        Expect.nodes("when [choice q a [-3 -3 5 9 4 4] close] 1 close", 4);
        Expect.wrongAtBar("when [choice q a [1 |0] close] 1 close");
        Expect.wrongAtBar("when [choice q a [1 2 -1 |-2] close] 1 close");
        StringBuilder most = new StringBuilder("when[choice q a[");
        while (most.length() < 8170) {
            most.append("1 1 ");
        }
        Expect.nodes(most + "]close]1 close", 4);
        Expect.wrongAtBar(most + "1|]close]1 close");
    }

    /** A value with so many numbers in it: twice as many NODES less one. */
    private static String sum(int numbers) {
        return numbers == 1 ? "1 " : "+ " + sum(numbers / 2) + sum(numbers - numbers / 2);
    }

    private static void nodesLimit() {
        Expect.nodes("let x neg " + sum(399) + "close", 800);
        Expect.wrongAtBar("let x " + sum(400) + "|close");
        String full = "if true let x " + sum(398) + "close ";
        Expect.nodes(full + "close", 800);
        Expect.wrongAtBar(full + "assert |true close");
        Expect.wrongAtBar("assert true assert true when [notify true let x " + sum(396) + "close |notify true close] 1 close");
    }

    private static void nestingLimit() {
        Expect.nodes("assert true ".repeat(99) + "close", 199);
        Expect.wrongAtBar("assert true ".repeat(99) + "assert |true close");
        Expect.nodes("when [] 1 ".repeat(99) + "close", 100);
        Expect.wrongAtBar("when [] 1 ".repeat(100) + "|close");
        Expect.wrongAtBar("assert true ".repeat(99) + "let x |1 close");
        Expect.nodes("let x " + "neg ".repeat(98) + "1 close", 101);
        Expect.wrongAtBar("let x " + "neg ".repeat(99) + "|1 close");
        Expect.wrongAtBar("let x " + "neg ".repeat(99) + "|(1) close");
        Expect.nodes("assert " + "not ".repeat(98) + "true close", 101);
        Expect.wrongAtBar("assert " + "not ".repeat(99) + "|true close");
        Expect.nodes("(".repeat(99) + "close" + ")".repeat(99), 1);
        Expect.wrongAtBar("(".repeat(100) + "|close");
        Expect.wrongAtBar("(".repeat(100) + "|(close");
        Expect.nodes("when [notify true ".repeat(99) + "close" + "] 1 close".repeat(99), 397);
        Expect.wrongAtBar("when [notify true ".repeat(99) + "when [notify |true close");
        // an A is no level of its own
        Expect.nodes("assert true ".repeat(98) + "when [deposit a b t 1 close] 1 close", 98 * 2 + 5);
        Expect.wrongAtBar("assert true ".repeat(99) + "when [deposit a b t |1 close] 1 close");
    }

    private static void actionsLimit() {
        Expect.nodes("when [" + "notify true close ".repeat(8) + "] 1 close", 26);
        Expect.wrongAtBar("when [" + "notify true close ".repeat(8) + "|notify true close] 1 close");
        Expect.nodes("when [notify true when [" + "notify true close ".repeat(8) + "] 1 close] 1 close", 30);
    }

    /** NODES are numbered as they begin: seen by the NODE that is left. */
    private static void numbering() {
        MarloweHost x = Expect.host("when [notify (false) (close) choice q a [1 1] when [] 50 close] 9 (let x + 1 2 when [] 40 close)");
        Expect.is("NODES", 13, () -> x.count(1));
        x.choose(0, 1);
        x.apply(0, 0);
        Expect.is("NODE", 5, () -> x.count(0));
        MarloweHost y = Expect.host("when [notify (false) (close) choice q a [1 1] when [] 50 close] 9 (let x + 1 2 when [] 40 close)");
        y.apply(9, 9);
        Expect.is("NODE", 11, () -> y.count(0));
        y.apply(40, 40);
        Expect.is("NODE", 12, () -> y.count(0));
    }
}
