/** What the tests share: making a market from a text, and comparing answers with those that are due. */
final class Kit {
    private int checks = 0;
    private int wrong = 0;
    private final String name;
    private String sentence = "";

    Kit(String name) {
        this.name = name;
    }

    /** Names the sentence of the document that the next checks look at; promise 0 is the description. */
    void says(int promise, String words) {
        sentence = " [promise " + promise + ": " + words + "]";
    }

    interface Call {
        long answer();
    }

    void due(String what, long got, long want) {
        checks++;
        if (got != want) {
            wrong++;
            System.out.println(name + ": " + what + " answered " + got + ", due is " + want + sentence);
        }
    }

    void due(String what, boolean got, boolean want) {
        due(what, got ? 1 : 0, want ? 1 : 0);
    }

    void dueDouble(String what, double got, double want) {
        checks++;
        if (Double.compare(got, want) != 0) {
            wrong++;
            System.out.println(name + ": " + what + " answered " + got + ", due is " + want + sentence);
        }
    }

    void index(String what, Call call) {
        fails(what, call, IndexOutOfBoundsException.class);
    }

    void argument(String what, Call call) {
        fails(what, call, IllegalArgumentException.class);
    }

    void state(String what, Call call) {
        fails(what, call, IllegalStateException.class);
    }

    private void fails(String what, Call call, Class<?> want) {
        checks++;
        String got;
        try {
            got = "answered " + call.answer();
        } catch (RuntimeException e) {
            if (e.getClass() == want) {
                return;
            }
            got = "threw " + e;
        }
        wrong++;
        System.out.println(name + ": " + what + " " + got + ", due is " + want.getName() + sentence);
    }

    /** Appends a text, filled up with spaces to whole calls, and parses just the text. */
    static int parse(CloudMarket x, String text) {
        fill(x, text);
        return x.parse(text.length());
    }

    static void fill(CloudMarket x, String text) {
        StringBuilder padded = new StringBuilder(text);
        while (padded.length() % 20 != 0) {
            padded.append(' ');
        }
        for (int at = 0; at < padded.length(); at += 20) {
            x.append(word(padded, at), word(padded, at + 4), word(padded, at + 8), word(padded, at + 12),
                word(padded, at + 16));
        }
    }

    private static int word(CharSequence text, int at) {
        return text.charAt(at) << 24 | text.charAt(at + 1) << 16 | text.charAt(at + 2) << 8 | text.charAt(at + 3);
    }

    /** A new market with the cloud of a text that must be right. */
    CloudMarket market(String text) {
        CloudMarket x = new CloudMarket();
        due("parse of " + text, parse(x, text), 0);
        return x;
    }

    /** What a new market answers to the parse of a wrong text. */
    void error(String text, int code, int position) {
        CloudMarket x = new CloudMarket();
        due("code of [" + text + "]", parse(x, text), code);
        due("position of [" + text + "]", x.errorPosition(), position);
    }

    void end() {
        System.out.println(name + ": " + checks + " checks, " + wrong + " wrong");
        if (wrong != 0) {
            System.exit(1);
        }
    }
}
