import java.io.IOException;
import java.nio.file.Files;
import java.nio.file.Path;
import java.util.ArrayList;
import java.util.List;
import java.util.Map;
import java.util.TreeMap;
import java.util.regex.Matcher;
import java.util.regex.Pattern;

/** The document's Terms and Promises, sentence by sentence, and which of them a test was made from. */
final class Doc {
    /** A heading; the Terms begin with sentences that have no number. */
    private static final Pattern HEADING =
        Pattern.compile("(?m)^(?:## (Terms)|======== (?=(\\d))|## (Promise \\d+|What it is|The public face).*|## .*)");
    /** Where one sentence, or part of it, ends and the next one begins; the two dots of '0 .. 5' end none. */
    private static final Pattern BETWEEN = Pattern.compile("(?<=[.;)])(?<!\\.\\.) (?=[A-Z0-9(])");

    private final Map<String, String> sections = new TreeMap<>();
    private final Map<String, boolean[]> quoted = new TreeMap<>();

    Doc(Path path) throws IOException {
        String text = Files.readString(path);
        Matcher heading = HEADING.matcher(text);
        String name = null;
        int from = 0;
        while (heading.find()) {
            keep(name, text.substring(from, heading.start()));
            from = heading.end();
            name = heading.group(1) != null ? "Terms 0" : heading.group(2) != null ? "Terms " + heading.group(2)
                : heading.group(3);
        }
        keep(name, text.substring(from));
    }

    private void keep(String name, String text) {
        if (name != null) {
            String plain = plain(text.replaceAll("```\\w*", " "));
            sections.put(name, plain.startsWith("`") ? plain.substring(plain.indexOf("`: ") + 3) : plain);
            quoted.put(name, new boolean[sections.get(name).length()]);
        }
    }

    private static String plain(String text) {
        return text.replaceAll("\\s+", " ").trim();
    }

    /** Whether the section has these words just once; they count as quoted then. */
    boolean quote(String section, String words) {
        String text = sections.getOrDefault(section, "");
        int at = text.indexOf(words);
        if (at < 0 || text.indexOf(words, at + 1) >= 0) {
            return false;
        }
        for (int i = at; i < at + words.length(); i++) {
            quoted.get(section)[i] = true;
        }
        return true;
    }

    /** The sentences of the Terms and promises that have a letter or digit which no test quoted. */
    List<String> unquoted() {
        List<String> found = new ArrayList<>();
        for (Map.Entry<String, String> section : sections.entrySet()) {
            boolean asks = section.getKey().matches("(Terms|Promise) .*");
            int at = 0;
            for (String sentence : BETWEEN.split(section.getValue())) {
                if (asks && !isQuoted(sentence, at, quoted.get(section.getKey()))) {
                    found.add(section.getKey() + ": " + sentence);
                }
                at += sentence.length() + 1;
            }
        }
        return found;
    }

    private static boolean isQuoted(String sentence, int at, boolean[] marks) {
        for (int i = 0; i < sentence.length(); i++) {
            if (Character.isLetterOrDigit(sentence.charAt(i)) && !marks[at + i]) {
                return false;
            }
        }
        return true;
    }
}
