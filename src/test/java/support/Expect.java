/** Asks calls for their answers and counts those that are not as due. */
final class Expect {
    interface Call {
        long run();
    }

    private static int asked = 0;
    private static int wrong = 0;
    private static String sentence = "";

    private Expect() {
    }

    /** A call's answer; an exception counts by its very class, so one of the machine's own shows. */
    static String answer(Call call) {
        try {
            return Long.toString(call.run());
        } catch (RuntimeException e) {
            return "throws." + e.getClass().getSimpleName();
        }
    }

    /** The words of the document that the next answers are held against; they are told with an answer that is not as due. */
    static void sentence(String words) {
        sentence = "[" + words + "] ";
    }

    static void same(String what, String due, String got) {
        asked++;
        if (!due.equals(got)) {
            wrong++;
            System.out.println(sentence + shortened(what) + " answered " + got + ", due is " + due);
        }
    }

    private static String shortened(String what) {
        return what.length() <= 300 ? what : what.substring(0, 100) + " .. " + what.substring(what.length() - 190);
    }

    static void is(String what, long due, Call call) {
        same(what, Long.toString(due), answer(call));
    }

    static void noArgument(String what, Call call) {
        same(what, "throws.IllegalArgumentException", answer(call));
    }

    static void noIndex(String what, Call call) {
        same(what, "throws.IndexOutOfBoundsException", answer(call));
    }

    static void noState(String what, Call call) {
        same(what, "throws.IllegalStateException", answer(call));
    }

    /** Feeds a text, filled up with octets of 0 to whole calls of feed. */
    static void feed(MarloweHost host, String text) {
        for (int at = 0; at < text.length(); at += 20) {
            host.feed(four(text, at), four(text, at + 4), four(text, at + 8), four(text, at + 12), four(text, at + 16));
        }
    }

    private static int four(String text, int at) {
        int four = 0;
        for (int i = at; i < at + 4; i++) {
            four = four << 8 | (i < text.length() ? text.charAt(i) & 255 : 0);
        }
        return four;
    }

    static String read(MarloweHost host, String text) {
        feed(host, text);
        return answer(() -> host.end(text.length()));
    }

    /** A new host with this contract, which has to be right. */
    static MarloweHost host(String text) {
        MarloweHost host = new MarloweHost();
        String answer = read(host, text);
        if (answer.startsWith("throws")) {
            same("the text " + text + ", WRONG at " + host.wrong() + ",", "read", answer);
        }
        return host;
    }

    static void nodes(String text, int due) {
        MarloweHost host = new MarloweHost();
        same("end of " + text, Integer.toString(due), read(host, text));
        is("wrong() of " + text, -1, host::wrong);
        is("count(1) of " + text, due, () -> host.count(1));
    }

    static void wrong(String text, int due) {
        MarloweHost host = new MarloweHost();
        same("end of " + text, "throws.IllegalArgumentException", read(host, text));
        is("wrong() of " + text, due, host::wrong);
        is("count(0) of " + text, -1, () -> host.count(0));
    }

    /** Where the bar stands in the text it is WRONG; the bar itself is no part of it. */
    static void wrongAtBar(String text) {
        int bar = text.indexOf('|');
        wrong(text.substring(0, bar) + text.substring(bar + 1), bar);
    }

    static void finish() {
        System.out.println(asked + " answers looked at, " + wrong + " not as due");
        if (wrong != 0 || asked == 0) {
            System.exit(1);
        }
    }
}
