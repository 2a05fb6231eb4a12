import java.io.IOException;
import java.nio.file.Files;
import java.nio.file.Path;

/**
 * Counts the answers that are not as due; end() ends the program with 1 if there was one. Each test begins with the
 * promise and the words of the document that it is made from, and the words are looked up there, so that no test can
 * outlive its sentence.
 */
class Check {
    /** Longer texts are told from where they differ. */
    private static final int LONG = 100;

    private final String name;
    /** With null for the document, nothing is looked up. */
    private Doc doc;
    private String from = "";
    private int tests;
    private int answers;
    private int answersBefore = -1;
    private int wrong;

    Check(String itsName) {
        name = itsName;
    }

    /** The document is where the first argument says, or beside the project. */
    void look(String[] args) {
        Path path = Path.of(args.length > 0 ? args[0] : "../shared/DOC.md");
        try {
            doc = Files.isReadable(path) ? new Doc(path) : null;
        } catch (IOException e) {
            doc = null;
        }
        if (doc == null) {
            System.out.println(name + ": there is no document to look the sentences up in");
        }
    }

    Doc doc() {
        return doc;
    }

    /** Begins a test of a promise's own sentence. */
    void promise(int number, String words) {
        begin("Promise " + number, "Promise " + number, words);
    }

    /** Begins a test of a sentence of the Terms, as it shows in a promise. */
    void terms(int section, int promise, String words) {
        begin("Promise " + promise + ", Terms " + section, "Terms " + section, words);
    }

    /** Begins a test of a line of the public face, which is that of a promise. */
    void face(int promise, String words) {
        begin("Promise " + promise + ", The public face", "The public face", words);
    }

    /** Begins a test of all promises, by a sentence of the document's first section. */
    void whatItIs(String words) {
        begin("Promises 1 to 28, What it is", "What it is", words);
    }

    /** Words that follow others before anything is asked are of the same test. */
    private void begin(String title, String section, String words) {
        String named = title + ", '" + words + "'";
        boolean same = answers == answersBefore;
        tests += same ? 0 : 1;
        from = same ? from + " and " + named : named;
        answersBefore = answers;
        if (doc != null && !doc.quote(section, words)) {
            fail("these words do not stand there, or more than once: '" + words + "'");
        }
    }

    void is(String what, long due, long got) {
        is(what, Long.toString(due), Long.toString(got));
    }

    void is(String what, boolean due, boolean got) {
        is(what, due ? 1 : 0, got ? 1 : 0);
    }

    void is(String what, String due, String got) {
        answers++;
        if (from.isEmpty()) {
            fail(what + ": no promise is named");
        }
        if (!due.equals(got)) {
            int at = due.length() > LONG ? firstDifference(due, got) : 0;
            fail(what + " is " + cut(got, at) + ", due is " + cut(due, at));
        }
    }

    private static int firstDifference(String due, String got) {
        int at = 0;
        while (at < due.length() && at < got.length() && due.charAt(at) == got.charAt(at)) {
            at++;
        }
        return Math.max(0, at - LONG / 2);
    }

    private static String cut(String text, int from) {
        String rest = text.substring(Math.min(from, text.length()));
        return (from > 0 ? ".. " : "") + (rest.length() > 2 * LONG ? rest.substring(0, 2 * LONG) + " .." : rest);
    }

    /** Several answers, told one behind the other. */
    void are(String what, String due, Object... got) {
        StringBuilder text = new StringBuilder();
        for (Object one : got) {
            text.append(text.length() == 0 ? "" : " ").append(one);
        }
        is(what, due, text.toString());
    }

    void fail(String text) {
        wrong++;
        System.out.println(name + ": " + from + ": " + text);
    }

    void end() {
        System.out.println(name + ": " + tests + " tests, " + answers + " answers, " + wrong + " wrong");
        if (wrong != 0) {
            System.exit(1);
        }
    }
}
