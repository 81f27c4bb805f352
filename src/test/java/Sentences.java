import java.io.IOException;
import java.nio.file.Files;
import java.nio.file.Path;
import java.util.ArrayList;
import java.util.List;
import java.util.Map;
import java.util.Set;
import java.util.TreeMap;
import java.util.TreeSet;
import java.util.regex.Matcher;
import java.util.regex.Pattern;

/** What ../shared/DOC.md says: the text of each promise, and the terms that they all use. */
final class Sentences {
    private static final Pattern PROMISE = Pattern.compile("## Promise (\\d+): [^\n]*\n\n`[^`]*`: ([^\n]*)");
    /** Promises whose text says so, and those that are told likewise. */
    private static final Pattern COULD_FAIL = Pattern.compile("FAILS:|Likewise\\.");
    private static final Pattern NAME = Pattern.compile("## Promise (\\d+): (\\w+)\n");

    final Map<Integer, String> promises = new TreeMap<>();
    final String terms;
    final Set<String> couldFail = new TreeSet<>();

    Sentences(Path document) throws IOException {
        String text = Files.readString(document).replace("&lt;", "<");
        terms = plain(between(text, "## Terms", "Ahead of the calls"));
        Matcher promise = PROMISE.matcher(text);
        while (promise.find()) promises.put(Integer.parseInt(promise.group(1)), plain(promise.group(2)));
        Matcher named = NAME.matcher(text);
        while (named.find()) {
            if (COULD_FAIL.matcher(promises.get(Integer.parseInt(named.group(1)))).find()) couldFail.add(named.group(2));
        }
    }

    private static String between(String text, String from, String to) {
        return text.substring(text.indexOf(from) + from.length(), text.indexOf(to));
    }

    static String plain(String text) {
        return text.replaceAll("======== \\d?|```text|```|`", " ").replaceAll("\\s+", " ").strip();
    }

    /** The first promise is about what all others tell of a new object. */
    boolean says(int promise, String sentence) {
        String own = promise == 1 ? String.join(" ", promises.values()) : promises.getOrDefault(promise, "");
        return own.contains(sentence) || terms.contains(sentence);
    }

    /** What is left of a text, when each of the quotes in it is taken out. */
    static List<String> unquoted(String text, List<String> quotes) {
        boolean[] quoted = new boolean[text.length()];
        for (String quote : quotes) {
            for (int at = text.indexOf(quote); at >= 0; at = text.indexOf(quote, at + 1)) {
                for (int i = 0; i < quote.length(); i++) quoted[at + i] = true;
            }
        }
        List<String> left = new ArrayList<>();
        for (int i = 0; i < quoted.length; i++) {
            int from = i;
            while (i < quoted.length && !quoted[i]) i++;
            String piece = text.substring(from, Math.min(i, quoted.length)).strip();
            if (!piece.isEmpty()) left.add(piece);
        }
        return left;
    }
}
