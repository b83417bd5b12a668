/** Terms 1: for each sentence that names a boundary case a test of its own. */
public final class TextEdgesTest {
    private static final String KEYS = "close pay to into if when let assert deposit choice notify balance neg chosen use start end cond "
            + "true false and or not made";

    public static void main(String[] args) {
        lastOfTheCalls();
        octetsOfText();
        octetBeforeAllElse();
        longestText();
        partedTokens();
        longestTokens();
        words();
        longestWord();
        numbers();
        longestNumber();
        signs();
        noTokens();
        firstWrongToken();
        eachTokenInEachPlace();
        wrongEnd();
        keysAreNoNames();
        otherWordsAreNames();
        emptyLists();
        kindsByThemselves();
        orderOfNumbers();
        ninthParty();
        fifthToken();
        ninthChoice();
        ninthChoiceOfNinthParty();
        ninthChoiceWithoutParty();
        ninthVariable();
        boundsInOrder();
        nodesAreCounted();
        nodesAsTheyBegin();
        nextNode();
        nextNodeInBrackets();
        nextLevel();
        levelsInWhen();
        levelsOfEachPart();
        deepestIsReckoned();
        nextAction();
        Expect.finish();
    }

    private static void lastOfTheCalls() {
        Expect.sentence("An object is used for at most 512 calls after it has been made");
        MarloweHost x = new MarloweHost();
        Expect.feed(x, "when [] 9 close");
        Expect.is("call 2", 2, () -> x.end(15));
        for (int i = 3; i <= 510; i++) {
            int call = i;
            Expect.is("call " + call, call == 3 ? 0 : call - 1, () -> x.wallet(7, 3, call));
        }
        Expect.is("call 511", 0, () -> x.apply(9, 9));
        Expect.is("call 512", 1, () -> x.count(0));
    }

    private static void octetsOfText() {
        Expect.sentence("THE TEXT: octets 10, 32..126 (another one: WRONG at it");
        for (int octet = 0; octet < 256; octet++) {
            boolean right = octet == 10 || (octet >= 32 && octet <= 126);
            // of a right octet the 7 before it is WRONG
            Expect.wrong("close 7 " + (char) octet, right ? 6 : 8);
        }
        Expect.nodes("\nlet\nx\n1\nclose\n", 3);
        Expect.nodes(" let x 1 close ", 3);
        Expect.wrong("\tclose", 0);
        Expect.wrong("close\r", 5);
        Expect.wrong("close\u007f", 5);
    }

    private static void octetBeforeAllElse() {
        Expect.sentence("(another one: WRONG at it, before anything else)");
        Expect.wrong("close close \t", 12);
        Expect.wrong("\u0080", 0);
        Expect.wrong("! ? \u001f \t", 4);
        Expect.wrong("(".repeat(200) + "\u00ff", 200);
        Expect.wrong("pay \u0000", 4);
        Expect.wrong("close" + " ".repeat(8186) + "\u000b", 8191);
        MarloweHost x = new MarloweHost();
        Expect.feed(x, "close\t");
        Expect.is("behind THE TEXT it is none of it", 1, () -> x.end(5));
    }

    private static void longestText() {
        Expect.sentence("THE TEXT: octets .., up to 8,192");
        Expect.nodes("close" + " ".repeat(8187), 1);
        Expect.nodes(" ".repeat(8187) + "close", 1);
        MarloweHost x = new MarloweHost();
        Expect.feed(x, "close" + " ".repeat(8195));
        Expect.noIndex("end(8193)", () -> x.end(8193));
        Expect.is("end(8192)", 1, () -> x.end(8192));
    }

    private static void partedTokens() {
        Expect.sentence("Blanks and ends of LINES part TOKENS");
        Expect.nodes("let\nx \n \n 1\n close", 3);
        Expect.wrongAtBar("|letx 1 close");
        Expect.wrongAtBar("|clo se");
        Expect.wrongAtBar("|clo\nse");
        Expect.wrongAtBar("let x 1 |2 close");
        Expect.wrongAtBar("assert < |= 1 2 close");
        Expect.wrongAtBar("assert >\n|= 1 2 close");
        reckons("- 5", "3", 2);
    }

    private static void longestTokens() {
        Expect.sentence("TOKENS, as long as can be");
        Expect.nodes("assert<=1 2close", 5);
        Expect.nodes("assert>=1 2close", 5);
        Expect.nodes("assert<1 2close", 5);
        Expect.wrongAtBar("assert <=|= 1 2 close");
        Expect.wrongAtBar("assert =|= 1 2 close");
        Expect.wrongAtBar("assert =|< 1 2 close");
        Expect.wrongAtBar("assert <|> 1 2 close");
        // -5 is one TOKEN, so there is no V behind the -
        Expect.wrongAtBar("let x -5 |3 close");
        Expect.wrongAtBar("let x - -5 |close");
        reckons("-5", "", -5);
        reckons("+5-3", "", 2);
        reckons("- 5-3", "", 8);
        reckons("--5", "3", -8);
        Expect.nodes("let close1 1close", 3);
        Expect.wrongAtBar("|closeclose");
    }

    /** What the value x has that the text tells. */
    private static void reckons(String value, String rest, long due) {
        MarloweHost x = Expect.host("let x " + value + " " + rest + " close");
        Expect.is("apply of " + value, 0, () -> x.apply(0, 0));
        Expect.is("x of " + value, due, () -> x.state(3, 0, 0));
    }

    private static void words() {
        Expect.sentence("WORDS (a-z A-Z _, then 0-9 too");
        for (String word : new String[] {"a", "z", "A", "Z", "_", "a0", "z9", "_0", "__", "aZ_09", "Z9z"}) {
            Expect.nodes("let " + word + " 1 close", 3);
        }
        // the octets beside a-z, A-Z, _ and 0-9
        for (char sign : new char[] {'@', '[', '`', '{', '^', ':'}) {
            Expect.wrongAtBar("let |" + sign + " 1 close");
            Expect.wrongAtBar("let a|" + sign + " 1 close");
        }
        Expect.wrongAtBar("let |/ 1 close");
        Expect.nodes("let a/ 1 2 close", 5);
        Expect.wrongAtBar("let |0a 1 close");
        Expect.wrongAtBar("let |9 1 close");
    }

    private static void longestWord() {
        Expect.sentence("WORDS (.., up to 16; what is behind is the next TOKEN)");
        Expect.nodes("let abcdefghijklmnop 1 close", 3);
        Expect.wrongAtBar("let abcdefghijklmnop|q 1 close");
        Expect.nodes("pay a to abcdefghijklmnopt 1 close", 3);
        reckons("use x", "let abcdefghijklmnop7", 0);
        MarloweHost x = Expect.host("let abcdefghijklmnop7 let abcdefghijklmno 8 let abcdefghijklmnop use abcdefghijklmno close");
        Expect.is("X", 2, () -> x.count(5));
        x.apply(0, 0);
        Expect.is("the 17th octet is a NUMBER", 8, () -> x.state(3, 0, 0));
        Expect.is("WARNINGS", 1, () -> x.count(7));
        Expect.nodes("let abcdefghijklmnop+1 2close", 5);
        // what is behind 16 octets may be a KEY
        Expect.nodes("when [choice q abcdefghijklmnop[1 2]close]1close", 4);
        Expect.nodes("pay a to b abcdefghijklmnopneg 1 close", 4);
        Expect.wrongAtBar("let abcdefghijklmnop|close");
        Expect.wrongAtBar("|closecloseclosecclose");
    }

    private static void numbers() {
        Expect.sentence("NUMBERS (perhaps -, then digits");
        for (String number : new String[] {"0", "9", "-0", "-9", "007", "-007", "1234567890"}) {
            reckons(number, "", Long.parseLong(number));
        }
        Expect.wrongAtBar("when [] |- 5 close");
        Expect.wrongAtBar("when [] |+5 close");
        Expect.wrongAtBar("when [] |-close");
        Expect.wrongAtBar("when [] |--5 close");
        Expect.wrongAtBar("let x 1|.5 close");
        Expect.nodes("when[]5close", 2);
    }

    private static void longestNumber() {
        Expect.sentence("NUMBERS (perhaps -, then digits, up to 17)");
        reckons("99999999999999999", "", 99999999999999999L);
        reckons("-99999999999999999", "", -99999999999999999L);
        Expect.wrongAtBar("let x 99999999999999999|9 close");
        Expect.wrongAtBar("let x -99999999999999999|9 close");
        // the 18th digit begins the next NUMBER
        reckons("+ 100000000000000002", "", 10000000000000002L);
        reckons("+ -100000000000000003", "", -10000000000000000L + 3);
        reckons("+ 00000000000000000", "5", 5);
        reckons("+ 000000000000000005", "", 5);
        reckons("- -00000000000000000", "5", -5);
        Expect.wrongAtBar("when [] 12345678901234567|8 close");
        Expect.nodes("when [choice q a [000000000000000001] close] 1 close", 4);
    }

    private static void signs() {
        Expect.sentence("SIGNS ( ) [ ] + - * / < <= > >= =");
        Expect.nodes("(when[]1(close))", 2);
        reckons("+7 2", "", 9);
        reckons("- 7 2", "", 5);
        reckons("*7 2", "", 14);
        reckons("/7 2", "", 3);
        String[] comparisons = {"<", "<=", ">", ">=", "="};
        int[] lower = {1, 1, 0, 0, 0};
        int[] same = {0, 1, 0, 1, 1};
        int[] higher = {0, 0, 1, 1, 0};
        for (int i = 0; i < comparisons.length; i++) {
            reckons("cond " + comparisons[i] + " 2 3 1 0", "", lower[i]);
            reckons("cond " + comparisons[i] + " 3 3 1 0", "", same[i]);
            reckons("cond " + comparisons[i] + " 4 3 1 0", "", higher[i]);
        }
    }

    private static void noTokens() {
        Expect.sentence("WRONG is the first TOKEN that can not stand where it is");
        for (char octet : "!\"#$%&',.:;?@\\^`{|}~".toCharArray()) {
            Expect.wrong("close " + octet, 6);
            Expect.wrong("let x 1" + octet + " close", 7);
            Expect.wrong("7 " + octet, 0);
        }
    }

    private static void firstWrongToken() {
        Expect.sentence("WRONG is the first TOKEN that can not stand where it is");
        String[] texts = {"|a", "|1", "|true", "|deposit a b t 1", "|[", "|)", "close |close", "close |)", "(close |close)", "(|)",
            "pay |close a", "pay a |b", "pay a |a to to", "pay a to |to b", "pay a to b |1", "pay a to b t |close", "pay a to b t |true",
            "pay a to b t 1 |1", "if |1", "if |close close", "if true |true", "if true close |)", "when |close", "when [|close",
            "when [|when [] 1 close", "when [] |a", "when [] 1 |1", "when [] |neg 1 close", "when [] |(1) close", "when [|(notify",
            "when [deposit |1", "when [deposit a |deposit", "when [deposit a b |[", "when [deposit a b t |]", "when [deposit a b t 1 |]",
            "when [notify true |]", "when [notify |1", "when [choice |1", "when [choice q |1", "when [choice q a |1", "when [choice q a [|a",
            "when [choice q a [|(1)", "when [choice q a [1 |neg", "let |1", "let |(x)", "let x |x", "let x |true", "let x 1 |x", "assert |1",
            "assert |x", "assert true |true", "let x (|close", "let x (1 |1)", "assert (|1)", "assert (true|]", "let x balance |1",
            "let x balance a |1", "let x neg |neg_", "let x + |true", "let x + 1 |close", "let x chosen |1", "let x use |1", "let x cond |1",
            "let x cond true |true", "let x cond true 1 |close", "assert and |1", "assert or true |1", "assert not |1", "assert made |1",
            "assert >= |true", "assert = 1 |true"};
        for (String text : texts) {
            Expect.wrongAtBar(text.indexOf('|') == 0 ? text : text + " ! 1 a close");
        }
        // a later TOKEN that can not stand is not the first
        Expect.wrongAtBar("let x |true let true 1 close close");
    }

    /** What may stand behind a beginning; it is WRONG at the end then, and at the TOKEN if that can not stand. */
    private static void eachTokenInEachPlace() {
        Expect.sentence("WRONG is the first TOKEN that can not stand where it is: the grammar");
        String contract = " close pay if when let assert ( ";
        String value = " 1 balance neg + - * / chosen use start end cond ( ";
        String truth = " true false and or not made >= > < <= = ( ";
        String[][] places = {{"", contract}, {"(", contract}, {"let x 1 ", contract}, {"pay a to b t 1 ", contract}, {"if true ", contract},
            {"if true close ", contract}, {"assert true ", contract}, {"when [] 1 ", contract}, {"when [notify true ", contract},
            {"when [deposit a b t 1 ", contract}, {"when [choice q a [1 2] ", contract},
            {"let x ", value}, {"let x (", value}, {"let x neg ", value}, {"let x + ", value}, {"let x - 1 ", value}, {"let x cond true ", value},
            {"let x cond true 1 ", value}, {"pay a to b t ", value}, {"when [deposit a b t ", value}, {"assert = ", value}, {"assert >= 1 ", value},
            {"assert ", truth}, {"assert (", truth}, {"assert not ", truth}, {"assert and ", truth}, {"assert or true ", truth}, {"if ", truth},
            {"when [notify ", truth}, {"let x cond ", truth},
            {"pay ", " a "}, {"pay a to ", " a "}, {"pay a into ", " a "}, {"pay a to b ", " a "}, {"let ", " a "}, {"let x use ", " a "},
            {"let x balance ", " a "}, {"let x balance a ", " a "}, {"let x chosen ", " a "}, {"let x chosen q ", " a "}, {"assert made ", " a "},
            {"assert made q ", " a "}, {"when [choice ", " a "}, {"when [choice q ", " a "}, {"when [deposit ", " a "}, {"when [deposit a ", " a "},
            {"when [deposit a b ", " a "}, {"pay a ", " to into "}, {"when ", " [ "}, {"when [", " deposit choice notify ] "},
            {"when [notify true close ", " deposit choice notify ] "}, {"when [] ", " 1 "}, {"when [choice q a ", " [ "}, {"when [choice q a [", " 1 "},
            {"when [choice q a [1 ", " 1 "}, {"when [choice q a [1 2 ", " 1 ] "}, {"when [choice q a [1 2 3 ", " 4 "}, {"close ", " "},
            {"(close ", " ) "}, {"let x (1 ", " ) "}, {"assert (true ", " ) "}, {"(close) ", " "}};
        String[] tokens = (KEYS + " ( ) [ ] + - * / < <= > >= = 1 4 a ! ~").split(" ");
        for (String[] place : places) {
            for (String token : tokens) {
                boolean number = token.equals("1") || token.equals("4");
                boolean due = place[1].contains(" " + token + " ") || (number && place[1].contains(" 1 "));
                String text = place[0] + token;
                MarloweHost x = new MarloweHost();
                boolean whole = Expect.read(x, text).matches("[0-9]+");
                Expect.is("wrong() of " + text, whole && due ? -1 : due ? text.length() : place[0].length(), x::wrong);
            }
        }
    }

    private static void wrongEnd() {
        Expect.sentence("WRONG is .. (the end: how many octets)");
        String[] texts = {"", " ", "\n", "pay", "pay a", "pay a to", "pay a to b", "pay a to b t", "pay a to b t 1", "if", "if true",
            "if true close", "when", "when [", "when []", "when [] 1", "when [notify", "when [notify true", "when [notify true close",
            "when [choice", "when [choice q", "when [choice q a", "when [choice q a [", "when [choice q a [1", "when [choice q a [1 2",
            "when [choice q a [1 2 ]", "when [deposit", "when [deposit a", "when [deposit a b", "when [deposit a b t", "when [deposit a b t 1",
            "let", "let x", "let x 1", "assert", "assert true", "(", "(close", "let x (", "let x (1", "assert (", "assert (true", "let x -"};
        for (String text : texts) {
            Expect.wrong(text, text.length());
            Expect.wrong(text + " \n ", text.length() + 3);
        }
        Expect.wrong("pay a" + " ".repeat(8187), 8192);
    }

    private static void keysAreNoNames() {
        Expect.sentence("KEYS are close pay to into if when let ..");
        for (String key : KEYS.split(" ")) {
            Expect.wrongAtBar("let |" + key + " 1 close");
            Expect.wrongAtBar("pay |" + key + " to b t 1 close");
            Expect.wrongAtBar("pay a to |" + key + " t 1 close");
            Expect.wrongAtBar("pay a to b |" + key + " 1 close");
            Expect.wrongAtBar("assert made |" + key + " a close");
            Expect.wrongAtBar("assert made q |" + key + " close");
        }
    }

    private static void otherWordsAreNames() {
        Expect.sentence("all other WORDS are NAMES");
        for (String key : KEYS.split(" ")) {
            String capital = key.substring(0, 1).toUpperCase() + key.substring(1);
            for (String name : new String[] {capital, key.toUpperCase(), key + "0", key + "_", "_" + key, key.charAt(0) + "_" + key.substring(1)}) {
                Expect.nodes("let " + name + " 1 close", 3);
            }
        }
        for (String name : new String[] {"clos", "closed", "c", "i", "int", "en", "ends", "n", "no", "nots", "tru", "wallet", "number"}) {
            Expect.nodes("let " + name + " 1 close", 3);
        }
    }

    private static void emptyLists() {
        Expect.sentence("\"when\" \"[\" {A C} \"]\" N C; \"choice\" H \"[\" N N {N N} \"]\"");
        Expect.nodes("when [] 1 close", 2);
        Expect.nodes("when [choice q a [1 2] close] 1 close", 4);
        Expect.wrongAtBar("when [choice q a [|] close] 1 close");
        Expect.wrongAtBar("when [choice q a [1 |] close] 1 close");
        Expect.wrongAtBar("when [choice q a [1 2 3 |] close] 1 close");
        Expect.wrongAtBar("when [notify true |] 1 close");
        // as many bounds as THE TEXT can hold, and of two TEXTS behind one another
        MarloweHost x = new MarloweHost();
        for (int pairs : new int[] {2040, 2039, 2040}) {
            Expect.same("end", "4", Expect.read(x, "when[choice q a[" + "1 1 ".repeat(pairs) + "]close]1 close"));
        }
    }

    private static void counts(String text, int parties, int tokens, int choices, int variables) {
        MarloweHost x = Expect.host(text);
        Expect.is("PARTIES of " + text, parties, () -> x.count(2));
        Expect.is("TOKENS of " + text, tokens, () -> x.count(3));
        Expect.is("CHOICES of " + text, choices, () -> x.count(4));
        Expect.is("X of " + text, variables, () -> x.count(5));
    }

    private static void kindsByThemselves() {
        Expect.sentence("PARTIES (P), TOKENS' names (T), CHOICES (H: the same NAME and P) and NAMES X are numbered, each kind by itself");
        counts("close", 0, 0, 0, 0);
        counts("let a balance a a let a chosen a a close", 1, 1, 1, 1);
        counts("assert made q a assert made q b assert made r a assert made r b assert made q a close", 2, 0, 4, 0);
        counts("pay a to A t 1 pay a_ to aa T 1 pay a1 to a11 t1 1 close", 6, 3, 0, 0);
        // the names of all kinds stand at their most at once
        counts(names("a", 8) + "close", 8, 4, 8, 8);
    }

    /** So many names of each kind (of TOKENS at most 4), 4 NODES each. */
    private static String names(String prefix, int most) {
        StringBuilder text = new StringBuilder();
        for (int i = 0; i < most; i++) {
            String name = prefix + i;
            text.append("let ").append(name).append(" + balance ").append(name).append(' ').append(prefix).append(i % 4)
                    .append(" chosen ").append(name).append(' ').append(name).append(' ');
        }
        return text.toString();
    }

    private static void orderOfNumbers() {
        Expect.sentence("numbered, each kind by itself, in the order of THE TEXT");
        MarloweHost x = Expect.host("when [deposit d c t2 1 pay b into a t1 1 close deposit a b t1 + 0 1 let y use x let x 7 when [choice r a [1 2] "
                + "when [choice q a [3 4] when [] 99 close] 90 close] 80 close] 70 close");
        x.wallet(3, 1, 1);
        x.wallet(2, 1, 5);
        x.deposit(3, 2, 1, 1);
        Expect.is("a is 3, b is 2, t1 is 1", 0, () -> x.apply(0, 0));
        Expect.is("WALLET of b", 4, () -> x.state(1, 2, 1));
        Expect.is("ACCOUNT of a", 1, () -> x.state(0, 3, 1));
        Expect.is("y is 0", 0, () -> x.state(3, 0, 0));
        Expect.is("x is 1", 7, () -> x.state(3, 1, 0));
        x.choose(0, 2);
        x.choose(1, 4);
        Expect.is("r is 0, q is 1", 0, () -> x.apply(0, 0));
        MarloweHost y = Expect.host("pay b to a t 1 close");
        Expect.is("apply", 0, () -> y.apply(0, 0));
        MarloweHost z = new MarloweHost();
        Expect.read(z, names("a", 8) + "let |");
        Expect.same("numbers of a WRONG TEXT do not count", "33", Expect.read(z, names("b", 8) + "close"));
        Expect.same("numbers of the TEXT before do not count", "33", Expect.read(z, names("ccc", 8) + "close"));
        Expect.read(z, "pay c5 to a c2 1 close");
        int[] due = {2, 1, 0, 0};
        for (int i = 0; i < due.length; i++) {
            int k = i;
            Expect.is("count(" + (2 + k) + ")", due[k], () -> z.count(2 + k));
        }
    }

    private static void ninthParty() {
        Expect.sentence("at most 8 PARTIES (of one more its NAME is WRONG)");
        String eight = "pay a to b t 1 pay c to d t 1 pay e to f t 1 pay g to h t 1 ";
        counts(eight + "pay h into a t balance d t close", 8, 1, 0, 0);
        Expect.wrongAtBar(eight + "pay |i to a t 1 close");
        Expect.wrongAtBar(eight + "pay a to |i t 1 close");
        Expect.wrongAtBar(eight + "pay a into |i t 1 close");
        Expect.wrongAtBar(eight + "let x balance |i t close");
        Expect.wrongAtBar(eight + "let x chosen q |i close");
        Expect.wrongAtBar(eight + "assert made q |i close");
        Expect.wrongAtBar(eight + "when [choice q |i [1 2] close] 1 close");
        Expect.wrongAtBar(eight + "when [deposit |i a t 1 close] 1 close");
        Expect.wrongAtBar(eight + "when [deposit a |i t 1 close] 1 close");
    }

    private static void fifthToken() {
        Expect.sentence("at most 4 TOKENS' names (of one more its NAME is WRONG)");
        String four = "pay a to a t 1 pay a to a u 1 pay a to a v 1 pay a to a w 1 ";
        counts(four + "pay a to a t balance a w close", 1, 4, 0, 0);
        Expect.wrongAtBar(four + "pay a to a |x 1 close");
        Expect.wrongAtBar(four + "let x balance a |x close");
        Expect.wrongAtBar(four + "when [deposit a a |x 1 close] 1 close");
    }

    private static String choices(int most) {
        StringBuilder text = new StringBuilder();
        for (int i = 0; i < most; i++) {
            text.append("assert made q").append(i / 2).append(" p").append(i % 2).append(' ');
        }
        return text.toString();
    }

    private static void ninthChoice() {
        Expect.sentence("at most 8 CHOICES (of one more its NAME is WRONG)");
        counts(choices(8) + "assert made q3 p1 let x chosen q0 p0 when [choice q2 p1 [1 2] close] 1 close", 2, 0, 8, 1);
        Expect.wrongAtBar(choices(8) + "assert made |q4 p0 close");
        Expect.wrongAtBar(choices(8) + "let x chosen |q4 p1 close");
        Expect.wrongAtBar(choices(8) + "when [choice |q4 p0 [1 2] close] 1 close");
        // the same NAME with another P is another CHOICE
        Expect.wrongAtBar(choices(8) + "assert made |q0 p2 close");
        Expect.wrongAtBar(choices(7) + "assert made q0 p2 assert made |q3 p1 close");
    }

    private static void ninthChoiceOfNinthParty() {
        Expect.sentence("WRONG is the first TOKEN that can not stand where it is; numbered, each kind by itself (of one more its NAME is WRONG)");
        String full = choices(8) + "pay p2 to p3 t 1 pay p4 to p5 t 1 pay p6 to p7 t 1 ";
        counts(full + "close", 8, 1, 8, 0);
        // one more CHOICE and one more PARTY: neither NAME can stand, the CHOICE's is the first one
        Expect.wrongAtBar(full + "assert made |q9 p8 close");
        Expect.wrongAtBar(full + "assert made |q0 p8 close");
        Expect.wrongAtBar(full + "let x chosen |q9 p8 close");
        Expect.wrongAtBar(full + "let x chosen |q0 p8 close");
        Expect.wrongAtBar(full + "when [choice |q9 p8 [1 2] close] 1 close");
        Expect.wrongAtBar(full + "when [choice |q0 p8 [1 2] close] 1 close");
        // a CHOICE can be named as its PARTY is
        Expect.wrongAtBar(full + "assert made |p8 p8 close");
        // one more CHOICE alone
        Expect.wrongAtBar(full + "assert made |q9 p7 close");
        Expect.wrongAtBar(full + "assert made |q0 p7 close");
        // one more PARTY alone: there is still room for a CHOICE
        String seven = choices(7) + "pay p2 to p3 t 1 pay p4 to p5 t 1 pay p6 to p7 t 1 ";
        counts(seven + "close", 8, 1, 7, 0);
        Expect.wrongAtBar(seven + "assert made q9 |p8 close");
        Expect.wrongAtBar(seven + "let x chosen q0 |p8 close");
        Expect.wrongAtBar(seven + "when [choice q9 |p8 [1 2] close] 1 close");
        counts(seven + "assert made q9 p7 assert made q9 p7 assert made q0 p1 close", 8, 1, 8, 0);
    }

    private static void ninthChoiceWithoutParty() {
        Expect.sentence("WRONG is the first TOKEN that can not stand where it is; P, T, X: NAMES");
        Expect.wrongAtBar(choices(8) + "assert made q9 |1 close");
        Expect.wrongAtBar(choices(8) + "assert made q9 |close");
        Expect.wrongAtBar(choices(8) + "let x chosen q9 |] close");
        Expect.wrongAtBar(choices(8) + "when [choice q9 |[1 2] close] 1 close");
        Expect.wrongAtBar(choices(8) + "assert made q9|");
    }

    private static void ninthVariable() {
        Expect.sentence("at most 8 NAMES X (of one more its NAME is WRONG)");
        String eight = "let a 1 let b use c let d use e let f 1 let g use h ";
        counts(eight + "let h use a close", 0, 0, 0, 8);
        Expect.wrongAtBar(eight + "let |i 1 close");
        Expect.wrongAtBar(eight + "let a use |i close");
        Expect.wrongAtBar(eight + "assert = 1 use |i close");
    }

    private static void boundsInOrder() {
        Expect.sentence("of bounds N N the second one is not below the first (else it is WRONG)");
        Expect.nodes("when [choice q a [1 1] close] 1 close", 4);
        Expect.nodes("when [choice q a [5 6 1 2] close] 1 close", 4);
        Expect.nodes("when [choice q a [-2 -1 -99999999999999999 99999999999999999] close] 1 close", 4);
        Expect.wrongAtBar("when [choice q a [1 |0] close] 1 close");
        Expect.wrongAtBar("when [choice q a [0 |-1] close] 1 close");
        Expect.wrongAtBar("when [choice q a [-1 |-2] close] 1 close");
        Expect.wrongAtBar("when [choice q a [1 2 4 |3] close] 1 close");
        Expect.wrongAtBar("when [choice q a [99999999999999999 |-99999999999999999] close] 1 close");
    }

    private static void nodesAreCounted() {
        Expect.sentence("NODES: each C, A, V, O but those in ( )");
        Expect.nodes("close", 1);
        Expect.nodes("(((close)))", 1);
        Expect.nodes("(let x (+ (1) ((2))) (close))", 5);
        Expect.nodes("(assert (and (true) (not (false))) (close))", 6);
        Expect.nodes("(when [deposit a b t (1) (close) choice q a [1 2] (close) notify (true) (close)] 1 (close))", 10);
        // the bounds of a choice and the N of a when are no V
        Expect.nodes("when [choice q a [1 2 3 4 5 6] close] 1 close", 4);
        Expect.nodes("if made q a let x cond > start end balance a t neg chosen q a close pay a to b t use x close", 14);
    }

    private static void nodesAsTheyBegin() {
        Expect.sentence("NODES: .. numbered as they begin");
        // 0 when, 1 A, 2 V, 3 assert, 4 O, 5 when, 6 close, 7 A, 8 when, 9 close, 10 A, 11 O, 12 assert, 13 O, 14 when, 15 close, 16 let,
        // 17 V, 18 V, 19 V, 20 when, 21 close
        String text = "(when [deposit a b t (0) (assert (false) when [] 50 close) choice q a [1 1] (when [] 60 close) notify (true) assert (false) "
                + "((when [] 70 close))] 9 (let x (+ (1) 2) when [] 80 (close)))";
        MarloweHost x = Expect.host(text);
        Expect.is("NODES", 22, () -> x.count(1));
        x.deposit(0, 1, 0, 0);
        x.apply(0, 0);
        Expect.is("the A", 1, () -> x.told(1, 0));
        Expect.is("the assert", 3, () -> x.told(1, 1));
        Expect.is("NODE", 5, () -> x.count(0));
        MarloweHost y = Expect.host(text);
        y.choose(0, 1);
        y.apply(0, 0);
        Expect.is("NODE", 8, () -> y.count(0));
        MarloweHost z = Expect.host(text);
        z.remind();
        z.apply(0, 0);
        Expect.is("the assert", 12, () -> z.told(1, 0));
        Expect.is("NODE", 14, () -> z.count(0));
        MarloweHost w = Expect.host(text);
        w.apply(9, 9);
        Expect.is("NODE", 20, () -> w.count(0));
    }

    /** A value with so many numbers in it: twice as many NODES less one. */
    private static String sum(int numbers) {
        return numbers == 1 ? "1 " : "+ " + sum(numbers / 2) + sum(numbers - numbers / 2);
    }

    /** The beginning of a text with so many NODES; a C is due behind it. */
    private static String filled(int nodes) {
        return "let x " + (nodes % 2 == 0 ? "" : "neg ") + sum(nodes / 2);
    }

    private static void nextNode() {
        Expect.sentence("NODES: .. at most 800 (the next one is WRONG)");
        Expect.nodes(filled(799) + "close", 800);
        Expect.nodes("(" + filled(799) + "((close)))", 800);
        Expect.nodes(filled(798) + "when [] 1 (close)", 800);
        // the 801st is a C, a V, an O, an A
        Expect.wrongAtBar(filled(800) + "|close");
        Expect.wrongAtBar(filled(798) + "let y 1 |close");
        Expect.wrongAtBar(filled(798) + "let y neg |1 close");
        Expect.wrongAtBar(filled(799) + "let y |1 close");
        Expect.wrongAtBar(filled(799) + "assert |true close");
        Expect.wrongAtBar(filled(798) + "assert not |true close");
        Expect.wrongAtBar(filled(796) + "when [notify true close |notify true close] 1 close");
        Expect.wrongAtBar(filled(799) + "when [|choice q a [1 2] close] 1 close");
        Expect.wrongAtBar(filled(799) + "when [|deposit a b t 1 close] 1 close");
    }

    private static void nextNodeInBrackets() {
        Expect.sentence("NODES: each C, A, V, O but those in ( ) .. (the next one is WRONG)");
        // the limit of 800 is one of C, A, V, O, that of 100 one of C, V, O, (: here the ( can stand, the one in it is the next one
        Expect.wrongAtBar(filled(800) + "(|close)");
        Expect.wrongAtBar(filled(800) + "((|close))");
        Expect.wrongAtBar(filled(799) + "let y (|1) close");
        Expect.wrongAtBar(filled(799) + "assert (|true) close");
    }

    private static void nextLevel() {
        Expect.sentence("at most 100 of C, V, O, ( in one another (the next one is WRONG)");
        Expect.nodes("let x 1 ".repeat(99) + "close", 199);
        Expect.wrongAtBar("when [] 1 ".repeat(100) + "|close");
        Expect.wrongAtBar("when [] 1 ".repeat(99) + "let x |1 close");
        Expect.wrongAtBar("when [] 1 ".repeat(99) + "assert |true close");
        Expect.wrongAtBar("when [] 1 ".repeat(100) + "|(close)");
        Expect.wrongAtBar("when [] 1 ".repeat(99) + "(|close)");
        Expect.nodes("when [] 1 ".repeat(98) + "(close)", 99);
        Expect.nodes("(".repeat(99) + "close" + ")".repeat(99), 1);
        Expect.wrongAtBar("(".repeat(100) + "|close" + ")".repeat(100));
        Expect.wrongAtBar("(".repeat(100) + "|(close" + ")".repeat(101));
        Expect.nodes("let x " + "neg ".repeat(98) + "1 close", 101);
        Expect.wrongAtBar("let x " + "neg ".repeat(99) + "|1 close");
        Expect.nodes("let x " + "(".repeat(98) + "1" + ")".repeat(98) + " close", 3);
        Expect.wrongAtBar("let x " + "(".repeat(99) + "|1" + ")".repeat(99) + " close");
        Expect.nodes("assert " + "not ".repeat(98) + "true close", 101);
        Expect.wrongAtBar("assert " + "not ".repeat(99) + "|true close");
        Expect.nodes("assert " + "(".repeat(98) + "true" + ")".repeat(98) + " close", 3);
        Expect.wrongAtBar("assert " + "(".repeat(99) + "|true" + ")".repeat(99) + " close");
        // what stands beside one another is not in one another
        Expect.nodes("if true if true if true close close close close", 10);
        Expect.nodes("let x + " + "neg ".repeat(97) + "1 " + "neg ".repeat(97) + "1 " + "when [] 1 ".repeat(98) + "close", 297);
    }

    private static void levelsInWhen() {
        Expect.sentence("at most 100 of C, V, O, ( in one another");
        // an A is none of these
        Expect.nodes("when [notify true ".repeat(99) + "close" + "] 1 close".repeat(99), 397);
        Expect.wrongAtBar("when [notify true ".repeat(99) + "when [notify |true close");
        Expect.nodes("when [] 1 ".repeat(98) + "when [deposit a b t 1 close choice q a [1 2] close] 1 close", 98 + 7);
        Expect.wrongAtBar("when [] 1 ".repeat(99) + "when [deposit a b t |1 close] 1 close");
        Expect.wrongAtBar("when [] 1 ".repeat(99) + "when [choice q a [1 2] |close] 1 close");
        Expect.wrongAtBar("when [] 1 ".repeat(99) + "when [] 1 |close");
    }

    /** In each place where a C, V or O stands, it is one level below what it is in. */
    private static void levelsOfEachPart() {
        Expect.sentence("at most 100 of C, V, O, ( in one another (the next one is WRONG)");
        String[] places = {"C if :O", "C if true :C", "C if true close :C", "C assert :O", "C assert true :C", "C let x :V", "C let x 1 :C",
            "C pay a to b t :V", "C pay a to b t 1 :C", "C when [deposit a b t :V", "C when [deposit a b t 1 :C", "C when [notify :O",
            "C when [notify true :C", "C when [choice q a [1 1] :C", "C when [] 1 :C", "C (:C", "V neg :V", "V + :V", "V + 1 :V",
            "V cond :O", "V cond true :V", "V cond true 1 :V", "V (:V", "O not :O", "O and :O", "O and true :O", "O or true :O",
            "O < :V", "O < 1 :V", "O (:O"};
        for (String place : places) {
            char whole = place.charAt(0);
            char part = place.charAt(place.length() - 1);
            // what is in the place is level 100
            String before = whole == 'C' ? "when [] 1 ".repeat(98)
                    : "when [] 1 ".repeat(97) + (whole == 'V' ? "let x " : "assert ");
            String open = before + place.substring(2, place.indexOf(':'));
            String leaf = part == 'C' ? "close" : part == 'V' ? "1" : "true";
            String branch = part == 'C' ? "assert " : part == 'V' ? "neg " : "not ";
            Expect.wrongAtBar(open + leaf + " |!");
            Expect.wrongAtBar(open + branch + "|" + (part == 'V' ? "1" : "true"));
            Expect.wrongAtBar(open + "(|" + leaf);
        }
    }

    private static void deepestIsReckoned() {
        Expect.sentence("at most 100 of C, V, O, ( in one another");
        // what stands round a value that stays the same by it, or by two of it; how many levels it takes
        String[][] values = {{"+ 0 ", "", "1"}, {"+ ", "0 ", "1"}, {"- 0 ", "", "1"}, {"- ", "0 ", "1"}, {"* 1 ", "", "1"}, {"* ", "1 ", "1"},
            {"/ ", "1 ", "1"}, {"/ 5 ", "", "1"}, {"neg ", "", "1"}, {"(", ") ", "1"}, {"cond true ", "0 ", "1"}, {"cond false 0 ", "", "1"},
            {"cond = 5 ", "5 0 ", "2"}, {"cond = ", "5 5 0 ", "2"}, {"cond not > 6 ", "4 5 ", "3"}};
        for (String[] round : values) {
            int times = 98 / Integer.parseInt(round[2]);
            reckons(round[0].repeat(times) + "5 " + round[1].repeat(times), "", 5);
        }
        String[][] truths = {{"and true ", ""}, {"and ", "true "}, {"or false ", ""}, {"or ", "false "}, {"not ", ""}, {"(", ") "}};
        for (String[] round : truths) {
            for (String inner : new String[] {"true ", "false "}) {
                MarloweHost x = Expect.host("assert " + round[0].repeat(98) + inner + round[1].repeat(98) + "close");
                Expect.is("apply of " + round[0] + inner, 0, () -> x.apply(0, 0));
                Expect.is("WARNINGS of " + round[0] + inner, inner.equals("true ") ? 0 : 1, () -> x.count(7));
            }
        }
        MarloweHost y = Expect.host("assert false ".repeat(99) + "close");
        Expect.is("apply", 0, () -> y.apply(0, 0));
        Expect.is("WARNINGS", 99, () -> y.count(7));
        Expect.is("NODE", 198, () -> y.count(0));
        MarloweHost z = Expect.host("when [notify true ".repeat(99) + "close" + "] 1 close".repeat(99));
        for (int i = 0; i < 16; i++) {
            z.remind();
        }
        Expect.is("apply", 0, () -> z.apply(0, 0));
        Expect.is("NODE", 48, () -> z.count(0));
    }

    private static void nextAction() {
        Expect.sentence("when has at most 8 A (the next one is WRONG)");
        String eight = "when [" + "notify true close ".repeat(8);
        Expect.nodes(eight + "] 1 close", 26);
        Expect.wrongAtBar(eight + "|notify true close] 1 close");
        Expect.wrongAtBar(eight + "|deposit a b t 1 close] 1 close");
        Expect.wrongAtBar(eight + "|choice q a [1 2] close] 1 close");
        // each when has its own
        Expect.nodes(eight.replace("close", eight + "] 1 close") + "] 1 " + eight + "] 1 close", 1 + 8 * 28 + 26);
    }
}
