import java.util.function.Supplier;

/**
 * The tests of the document's boundary cases. Each begins with the promise and the words of the document that it is
 * made from, and the words are looked up there, so that no test can outlive its sentence.
 */
final class Edges {
    /** Longer texts are told from where they differ. */
    private static final int LONG = 100;

    private final Doc doc;
    private String from = "";
    private int tests;
    private int answers;
    private int wrong;

    /** With null for the document, nothing is looked up. */
    Edges(Doc itsDoc) {
        doc = itsDoc;
    }

    /** Begins a test of a promise's own sentence. */
    void promise(int number, String words) {
        begin("Promise " + number, "Promise " + number, words);
    }

    /** Begins a test of a sentence of the Terms, as it shows in a promise. */
    void terms(int section, int promise, String words) {
        begin("Promise " + promise + ", Terms " + section, "Terms " + section, words);
    }

    private void begin(String name, String section, String words) {
        tests++;
        from = name + ", '" + words + "'";
        if (doc != null && !doc.quote(section, words)) {
            fail("these words do not stand there, or more than once");
        }
    }

    void is(String what, long due, long got) {
        answers++;
        if (due != got) {
            fail(what + " is " + got + ", due is " + due);
        }
    }

    void is(String what, boolean due, boolean got) {
        is(what, due ? 1 : 0, got ? 1 : 0);
    }

    void is(String what, String due, String got) {
        answers++;
        if (!due.equals(got)) {
            int from = due.length() > LONG ? firstDifference(due, got) : 0;
            fail(what + " is " + cut(got, from) + ", due is " + cut(due, from));
        }
    }

    private static int firstDifference(String due, String got) {
        int at = 0;
        while (at < due.length() && at < got.length() && due.charAt(at) == got.charAt(at)) {
            at++;
        }
        return Math.max(0, at - LONG / 2);
    }

    private static String cut(String text, int from) {
        String rest = text.substring(Math.min(from, text.length()));
        return (from > 0 ? ".. " : "") + (rest.length() > 2 * LONG ? rest.substring(0, 2 * LONG) + " .." : rest);
    }

    /** Several answers, told one behind the other. */
    void are(String what, String due, Object... got) {
        StringBuilder text = new StringBuilder();
        for (Object one : got) {
            text.append(text.length() == 0 ? "" : " ").append(one);
        }
        is(what, due, text.toString());
    }

    /** A CALL of the system that is refused so, and leaves all as it is with a twin that did not make it. */
    void refused(String what, Supplier<Bench> made, int due, int f, int... given) {
        Bench bench = made.get();
        is(what, due, bench.call(f, given));
        is(what + ": nothing is changed", Views.all(made.get().house), Views.all(bench.house));
    }

    private void fail(String text) {
        wrong++;
        System.out.println("EdgesTest: " + from + ": " + text);
    }

    void end() {
        if (doc == null) {
            System.out.println("EdgesTest: there is no document to look the sentences up in");
        } else {
            from = "the document";
            for (String sentence : doc.unquoted()) {
                fail("no test is made from '" + sentence + "'");
            }
        }
        System.out.println("EdgesTest: " + tests + " tests, " + answers + " answers, " + wrong + " wrong");
        if (wrong != 0) {
            System.exit(1);
        }
    }
}
