import java.util.Arrays;
import java.util.List;
import java.util.Random;

/** Asks the program and the oracle the same, in runs of calls made at random (from seeds that are always the same). */
public final class OracleTest {
    private static final int RUNS = 6000;

    private final Random random;
    private final MarloweHost host = new MarloweHost();
    private final Oracle oracle = new Oracle();
    private final StringBuilder story = new StringBuilder();
    private final int hue;
    private int calls = 0;
    private int nodesLeft;
    private boolean same = true;

    private OracleTest(int seed) {
        random = new Random(seed);
        hue = random.nextInt(8);
    }

    public static void main(String[] args) {
        int runs = args.length > 0 ? Integer.parseInt(args[0]) : RUNS;
        int from = args.length > 1 ? Integer.parseInt(args[1]) : 0;
        int[] told = new int[20];
        int failed = 0;
        for (int seed = from; seed < from + runs && failed < 5; seed++) {
            OracleTest test = new OracleTest(seed);
            test.run(told);
            if (!test.same) {
                failed++;
                System.out.println("seed " + seed + ":\n" + test.story);
            }
        }
        System.out.println(runs + " runs; texts right " + told[0] + ", wrong " + told[1] + "; clean " + told[2] + ", found " + told[3]
                + ", fuel " + told[4] + ", outside " + told[5] + "; without a contract " + told[6] + "; ERROR 0 to 7: "
                + Arrays.toString(Arrays.copyOfRange(told, 7, 15)));
        Expect.is("runs that differ", 0, () -> 0);
        for (int i = 0; i < failed; i++) {
            Expect.same("a run", "the same", "another");
        }
        Expect.finish();
    }

    private int up(int bound) {
        return random.nextInt(bound);
    }

    private boolean odds(int percent) {
        return random.nextInt(100) < percent;
    }

    private String ask(String call, Expect.Call ours, Expect.Call theirs) {
        calls++;
        String due = Expect.answer(theirs);
        String got = Expect.answer(ours);
        story.append(call).append(" -> ").append(got);
        if (!due.equals(got)) {
            story.append("   DUE IS ").append(due);
            same = false;
        }
        story.append('\n');
        return got;
    }

    private void run(int[] told) {
        int texts = 2 + up(3);
        for (int i = 0; i < texts && calls < 250 && same; i++) {
            text(told);
            int turns = host.count(0) < 0 ? up(2) : 1 + up(9);
            for (int k = 0; k < turns && calls < 420 && same; k++) {
                turn(told);
            }
        }
    }

    private void text(int[] told) {
        nodesLeft = 4 + up(odds(10) ? 700 : 60);
        String text = contract(0);
        if (odds(35)) {
            text = spoil(text);
        }
        if (text.length() > 3000) {
            text = text.substring(0, 3000);
        }
        story.append(text).append('\n');
        Expect.feed(host, text);
        for (int at = 0; at < text.length(); at += 20) {
            int[] f = new int[5];
            for (int i = 0; i < 20; i++) {
                f[i / 4] = f[i / 4] << 8 | (at + i < text.length() ? text.charAt(at + i) & 255 : 0);
            }
            oracle.feed(f[0], f[1], f[2], f[3], f[4]);
            calls++;
        }
        int n = odds(95) ? text.length() : up(text.length() + 40) - 10;
        String answer = ask("end(" + n + ")", () -> host.end(n), () -> oracle.end(n));
        told[answer.startsWith("throws") ? 1 : 0]++;
        ask("wrong()", host::wrong, oracle::wrong);
        counts();
    }

    private void counts() {
        for (int i = -1; i < 12; i++) {
            int what = i;
            ask("count(" + what + ")", () -> host.count(what), () -> oracle.count(what));
        }
    }

    private void turn(int[] told) {
        for (int i = up(3); i > 0; i--) {
            int party = up(50) == 0 ? up(12) - 2 : up(4);
            int token = up(50) == 0 ? up(8) - 2 : up(3);
            long amount = up(4) == 0 ? (1L << 61) + up(3) - 2 : up(200);
            ask("wallet(" + party + ", " + token + ", " + amount + ")", () -> host.wallet(party, token, amount),
                    () -> oracle.wallet(party, token, amount));
        }
        int most = odds(3) ? 18 : oracle.likelyInputs().isEmpty() && odds(80) ? 0 : up(3);
        for (int i = 0; i < most; i++) {
            input();
        }
        long time = oracleTime();
        long low = time + (odds(70) ? 0 : up(9) - 2);
        long high = odds(2) ? Long.MAX_VALUE : low + up(odds(30) ? 9 : 2) - (odds(3) ? 2 : 0);
        String answer = ask("apply(" + low + ", " + high + ")", () -> host.apply(low, high), () -> oracle.apply(low, high));
        told[answer.startsWith("throws") ? 6 : 7 + Integer.parseInt(answer)]++;
        if (answer.equals("0") || odds(10)) {
            look();
        }
        if (odds(40)) {
            analyse(told);
        }
    }

    private long oracleTime() {
        try {
            return Math.min(oracle.state(4, 0, 0), Long.MAX_VALUE - 100);
        } catch (IllegalStateException e) {
            return 0;
        }
    }

    private void input() {
        List<String> likely = oracle.likelyInputs();
        if (!likely.isEmpty() && odds(85)) {
            String[] parts = likely.get(up(likely.size())).trim().split(" +");
            if (parts[0].equals("deposit")) {
                deposit(Integer.parseInt(parts[1]), Integer.parseInt(parts[2]), Integer.parseInt(parts[3]), Long.parseLong(parts[4]));
            } else if (parts[0].equals("choice")) {
                choose(Integer.parseInt(parts[1]), Long.parseLong(parts[2]));
            } else {
                ask("remind()", host::remind, oracle::remind);
            }
        } else if (odds(40)) {
            deposit(up(10) - 1, up(10) - 1, up(6) - 1, up(20) - 4);
        } else if (odds(50)) {
            choose(up(10) - 1, up(20) - 4);
        } else {
            ask("remind()", host::remind, oracle::remind);
        }
    }

    private void deposit(int account, int party, int token, long amount) {
        if (odds(80) && party >= 0 && party < 8 && token >= 0 && token < 4 && amount >= 0 && amount <= 1L << 61) {
            ask("wallet(" + party + ", " + token + ", " + amount + ")", () -> host.wallet(party, token, amount),
                    () -> oracle.wallet(party, token, amount));
        }
        ask("deposit(" + account + ", " + party + ", " + token + ", " + amount + ")", () -> host.deposit(account, party, token, amount),
                () -> oracle.deposit(account, party, token, amount));
    }

    private void choose(int choice, long v) {
        ask("choose(" + choice + ", " + v + ")", () -> host.choose(choice, v), () -> oracle.choose(choice, v));
    }

    private void look() {
        counts();
        for (int i = 0; i < 8; i++) {
            int what = up(7) - 1;
            int a = up(9) - up(2);
            int b = up(4);
            ask("state(" + what + ", " + a + ", " + b + ")", () -> host.state(what, a, b), () -> oracle.state(what, a, b));
        }
        for (int k = -1; k <= Math.min(3, Math.max(host.count(7), host.count(8))); k++) {
            int which = k;
            for (int i = 0; i < 5; i++) {
                int what = i;
                ask("told(" + what + ", " + which + ")", () -> host.told(what, which), () -> oracle.told(what, which));
            }
            ask("paid(" + which + ")", () -> host.paid(which), () -> oracle.paid(which));
        }
    }

    private void analyse(int[] told) {
        String answer = ask("analyse()", host::analyse, oracle::analyse);
        if (!answer.startsWith("throws")) {
            told[2 + Integer.parseInt(answer)]++;
        }
        ask("count(9)", () -> host.count(9), () -> oracle.count(9));
        ask("count(10)", () -> host.count(10), () -> oracle.count(10));
        for (int k = -1; k <= Math.min(6, host.count(10)); k++) {
            int which = k;
            for (int i = 0; i < 3; i++) {
                int what = i;
                ask("step(" + which + ", " + what + ")", () -> host.step(which, what), () -> oracle.step(which, what));
            }
        }
    }

    // texts at random

    private String blank() {
        return odds(96) ? " " : odds(50) ? "\n" : "  ";
    }

    private String party() {
        return "p" + up(odds(98) ? 3 + hue % 3 : 10);
    }

    private String token() {
        return "t" + up(odds(98) ? 2 : 5);
    }

    private String choice() {
        return "q" + up(odds(98) ? 2 : 5) + blank() + (odds(90) ? "p0" : party());
    }

    private String variable() {
        return "x" + up(odds(97) ? 6 : 10);
    }

    private String number() {
        int sort = up(100);
        if (sort < 80) {
            return Integer.toString(up(14) - (hue == 0 ? 3 : 0));
        }
        if (sort < 88) {
            return Integer.toString(up(30) - 12);
        }
        if (sort < 94) {
            return odds(50) ? "* 2147483648 2147483648" : "2147483648";
        }
        return sort < 97 ? "99999999999999999" : "-99999999999999999";
    }

    /** Whens in one another with so many ways through them that the fuel may not last. */
    private String maze(int depth) {
        if (depth > 5) {
            return odds(90) ? "close " : "assert false close ";
        }
        int ways = 2 + up(5);
        return "when [choice q0 p0 [1 " + ways + "] " + maze(depth + 1) + "notify = " + up(4) + " chosen q0 p0 " + maze(depth + 2) + "] "
                + (5 + 9 * depth) + " " + maze(depth + 2);
    }

    /** Names of each kind, about as many as may be, in an order in which each kind may be the first that is too many. */
    private String crowd() {
        StringBuilder text = new StringBuilder();
        for (int i = 10 + up(30); i > 0; i--) {
            String party = "p" + up(9);
            String choice = "q" + up(2) + blank() + "p" + up(odds(70) ? 4 : 9) + blank();
            switch (up(5)) {
                case 0:
                    text.append("assert made ").append(choice);
                    break;
                case 1:
                    text.append("let x").append(up(9)).append(" chosen ").append(choice);
                    break;
                case 2:
                    text.append("when [choice ").append(choice).append("[1 2] close] 9 ");
                    break;
                case 3:
                    text.append("let x").append(up(9)).append(" balance ").append(party).append(" t").append(up(odds(90) ? 4 : 5)).append(blank());
                    break;
                default:
                    text.append("pay ").append(party).append(" into ").append(party).append(" t0 ").append(number()).append(blank());
                    break;
            }
        }
        return text + "close";
    }

    private String contract(int depth) {
        if (hue == 7 && depth == 0 && odds(50)) {
            return maze(0);
        }
        if (hue == 6 && depth == 0 && odds(40)) {
            return crowd();
        }
        nodesLeft--;
        if (odds(4)) {
            return "(" + contract(depth + 1) + ")";
        }
        if (nodesLeft < 0 || depth > 60 || odds(5)) {
            return "close" + blank();
        }
        switch (up(10)) {
            case 0:
            case 1:
                return "pay" + blank() + party() + blank() + (odds(60) ? "to" : "into") + blank() + party() + blank() + token() + blank()
                        + value(0) + contract(depth + 1);
            case 2:
                return "if" + blank() + truth(0) + contract(depth + 1) + contract(depth + 1);
            case 3:
                return "let" + blank() + variable() + blank() + value(0) + contract(depth + 1);
            case 4:
                return "assert" + blank() + (hue > 2 ? "not false " : truth(0)) + contract(depth + 1);
            default:
                return when(depth);
        }
    }

    private String when(int depth) {
        StringBuilder text = new StringBuilder("when" + blank() + "[");
        for (int i = odds(2) ? 7 + up(3) : up(4); i > 0; i--) {
            text.append(action()).append(contract(depth + 1));
        }
        return text + "]" + blank() + (up(6) + 4 * depth) + blank() + contract(depth + 1);
    }

    private String action() {
        nodesLeft--;
        switch (up(3)) {
            case 0:
                return "deposit" + blank() + party() + blank() + party() + blank() + token() + blank()
                        + (odds(60) ? (1 + up(9)) + " " : odds(20) ? "* 2147483648 1073741824 " : value(0));
            case 1:
                StringBuilder text = new StringBuilder("choice" + blank() + choice() + blank() + "[");
                for (int i = odds(80) ? 1 : 1 + up(3); i > 0; i--) {
                    int low = up(12) - 4;
                    text.append(low).append(blank()).append(low + up(odds(97) ? 4 : 18) - (odds(1) ? 1 : 0)).append(blank());
                }
                return text + "]" + blank();
            default:
                return "notify" + blank() + truth(0);
        }
    }

    private String value(int depth) {
        nodesLeft--;
        if (odds(4)) {
            return "(" + value(depth + 1) + ")" + blank();
        }
        if (depth > 6 || odds(55)) {
            return number() + blank();
        }
        switch (up(9)) {
            case 0:
                return "balance" + blank() + party() + blank() + token() + blank();
            case 1:
                return "neg" + blank() + value(depth + 1);
            case 2:
                return "chosen" + blank() + choice() + blank();
            case 3:
                return "use" + blank() + variable() + blank();
            case 4:
                return hue == 1 ? (odds(50) ? "start " : "end ") : number() + blank();
            case 5:
                return "cond" + blank() + truth(depth + 1) + value(depth + 1) + value(depth + 1);
            default:
                return "+-*/".charAt(up(4)) + blank() + value(depth + 1) + value(depth + 1);
        }
    }

    private String truth(int depth) {
        nodesLeft--;
        if (odds(4)) {
            return "(" + truth(depth + 1) + ")" + blank();
        }
        if (depth > 6 || odds(30)) {
            return odds(70) ? "true " : "false ";
        }
        switch (up(6)) {
            case 0:
                return (odds(50) ? "and" : "or") + blank() + truth(depth + 1) + truth(depth + 1);
            case 1:
                return "not" + blank() + truth(depth + 1);
            case 2:
                return "made" + blank() + choice() + blank();
            default:
                return new String[] {">=", ">", "<", "<=", "="}[up(5)] + blank() + value(depth + 1) + value(depth + 1);
        }
    }

    private String spoil(String text) {
        StringBuilder changed = new StringBuilder(text);
        for (int i = 1 + up(2); i > 0 && changed.length() > 0; i--) {
            int at = up(changed.length());
            switch (up(6)) {
                case 0:
                    changed.deleteCharAt(at);
                    break;
                case 1:
                    changed.insert(at, (char) (32 + up(95)));
                    break;
                case 2:
                    changed.setCharAt(at, odds(80) ? (char) (32 + up(95)) : (char) up(256));
                    break;
                case 3:
                    changed.setLength(at);
                    break;
                case 4:
                    changed.insert(at, odds(50) ? "-" : "(");
                    break;
                default:
                    changed.insert(at, odds(50) ? "12345678901234567890" : "abcdefghijklmnopqrstuvw");
                    break;
            }
        }
        return changed.toString();
    }
}
