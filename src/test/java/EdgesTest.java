import java.io.IOException;
import java.nio.file.Files;
import java.nio.file.Path;
import java.util.ArrayList;
import java.util.HashMap;
import java.util.List;
import java.util.Map;
import java.util.stream.Collectors;
import java.util.stream.Stream;

/**
 * Each sentence of the document beside runs of calls that would answer otherwise if it were broken (src/test/edges).
 * Of every run three things are looked at: the answers that are due; what raised() tells behind each call; and whether
 * all is the same on a wall that is never asked what is refused or FAILS.
 */
public final class EdgesTest {
    private static final Path DOCUMENT = Path.of("../shared/DOC.md"), EDGES = Path.of("src/test/edges"), TERMS = Path.of("src/test/edges/terms.md");
    private static int wrong = 0;
    private static int calls = 0;

    public static void main(String[] args) throws IOException {
        Sentences document = new Sentences(DOCUMENT);
        List<Edge> edges = read();
        for (Edge edge : edges) {
            for (List<Edge.Call> run : edge.runs) check(edge, run, document);
        }
        compareWith(document, edges);
        System.out.println("EdgesTest: " + edges.size() + " sentences, " + calls + " calls, " + wrong + " wrong");
        if (wrong != 0 || edges.isEmpty()) System.exit(1);
    }

    private static List<Edge> read() throws IOException {
        List<Path> files;
        try (Stream<Path> all = Files.list(EDGES)) {
            files = all.filter(path -> path.toString().endsWith(".edges")).sorted().collect(Collectors.toList());
        }
        List<Edge> edges = new ArrayList<>();
        for (Path file : files) edges.addAll(EdgeFile.read(file));
        return edges;
    }

    private static void report(Edge edge, String what) {
        wrong++;
        System.out.println(edge.file + ":" + edge.line + ": promise " + edge.promise + ": " + String.join(" ", edge.sentences) + "\n    " + what);
    }

    private static void check(Edge edge, List<Edge.Call> run, Sentences document) {
        if (run.isEmpty()) report(edge, "no calls");
        Face face = new Face();
        boolean asDue = true;
        for (Edge.Call call : run) asDue &= isAsDue(edge, call, answerOf(face, call));
        calls += face.calls();
        if (face.calls() > Face.MOST_CALLS) report(edge, face.calls() + " calls are more than a wall is used for");
        if (!asDue) return;
        checkRaised(edge, run, document);
        checkWithout(edge, run, face);
    }

    private static long answerOf(Face face, Edge.Call call) {
        return call.name.equals("forge") ? forge(face, call.args) : face.call(call.name, call.args);
    }

    private static boolean isAsDue(Edge edge, Edge.Call call, long answer) {
        boolean asDue = call.due == null ? answer < -2000000018L || answer > -2000000001L : answer == Face.number(call.due);
        if (!asDue) report(edge, "line " + call.line + ": " + call + " answered " + shown(answer) + ", due is " + (call.due == null ? "no refusal, no failure" : call.due));
        return asDue;
    }

    private static String shown(long answer) {
        return Math.abs(answer) < 1L << 50 ? Long.toString(answer) : answer + " (" + Double.longBitsToDouble(answer) + ")";
    }

    /** A byte of a page is altered, and its SUM made right again, as the document tells THE SUM. */
    private static long forge(Face face, List<String> args) {
        face.call("damage", args);
        long page = Face.number(args.get(0));
        int s = 0;
        for (int i = 0; i < 28; i++) s = Integer.rotateLeft(s ^ (int) face.call("pageByte", page, i), 7) * 0xC2B2AE3D;
        for (int i = 0; i < 4; i++) {
            long mask = face.call("pageByte", page, 28 + i) ^ s >>> 24 - 8 * i & 255;
            if (mask != 0) face.call("damage", page, 28 + i, mask);
        }
        return 1;
    }

    /** "The FAILURE of the latest call that could FAIL and was not refused", and its WORD, but where only the run itself can tell it. */
    private static void checkRaised(Edge edge, List<Edge.Call> run, Sentences document) {
        Face face = new Face();
        long failure = 0, word = 0;
        boolean wordKnown = true;
        for (Edge.Call call : run) {
            if (face.calls() > Face.MOST_CALLS - 60) return;
            answerOf(face, call);
            boolean counts = document.couldFail.contains(call.name) || call.name.equals("forge");
            if (counts && !call.isRefused()) {
                failure = call.fails() ? -2000000010L - Face.number(call.due) : 0;
                word = 0;
                wordKnown = !call.mayHaveWord();
            }
            raised(edge, call, 0, face.call("raised", 0), failure);
            if (wordKnown) raised(edge, call, 1, face.call("raised", 1), word);
        }
    }

    private static void raised(Edge edge, Edge.Call behind, int what, long got, long want) {
        if (got != want) report(edge, "line " + behind.line + ": behind " + behind + " raised(" + what + ") answered " + got + ", due is " + want);
    }

    /** "What is refused or FAILS changes nothing but where told (and what raised() tells)." */
    private static void checkWithout(Edge edge, List<Edge.Call> run, Face with) {
        Face without = new Face();
        for (Edge.Call call : run) {
            boolean aboutFailures = call.name.equals("raised") && Face.number(call.args.get(0)) < 2;
            if (call.leavesNothing() || aboutFailures) continue;
            isAsDue(edge, call, answerOf(without, call));
        }
        int most = Face.MOST_CALLS - with.calls();
        List<String> told = Portrait.of(with, most), toldWithout = Portrait.of(without, most);
        for (int i = 0; i < Math.min(told.size(), toldWithout.size()); i++) {
            if (told.get(i).equals(toldWithout.get(i))) continue;
            report(edge, "what was refused or FAILED changed " + toldWithout.get(i) + " to " + told.get(i));
            return;
        }
    }

    private static void compareWith(Sentences document, List<Edge> edges) throws IOException {
        Map<Integer, List<String>> quotes = new HashMap<>();
        for (Edge edge : edges) {
            for (String sentence : edge.sentences) {
                if (!document.says(edge.promise, sentence)) report(edge, "the document does not say: " + sentence);
            }
            quotes.computeIfAbsent(edge.promise, key -> new ArrayList<>()).addAll(edge.sentences);
        }
        document.promises.forEach((promise, text) -> complain("no test of promise " + promise + ": ", Sentences.unquoted(text, quotes.getOrDefault(promise, List.of()))));
        if (document.promises.size() != 83) complain("", List.of("83 promises are not in " + DOCUMENT));
        compareTerms(document, quotes);
    }

    /** terms.md tells of each sentence of the terms which promises use it, as far as it names a boundary. */
    private static void compareTerms(Sentences document, Map<Integer, List<String>> quotes) throws IOException {
        List<String> terms = new ArrayList<>();
        for (String line : Files.readAllLines(TERMS)) {
            if (line.startsWith("> ")) terms.add(line.substring(2));
            if (!line.startsWith("used by: ")) continue;
            String term = terms.get(terms.size() - 1);
            for (String number : line.substring(9).split(" ")) {
                int promise = Integer.parseInt(number);
                String own = document.promises.get(promise);
                boolean tested = quotes.getOrDefault(promise, List.of()).stream().anyMatch(quote -> !own.contains(quote) && (term.contains(quote) || quote.contains(term)));
                if (!tested) complain("no test of promise " + promise + " and the term ", List.of(term));
            }
        }
        for (String term : terms) {
            if (!document.terms.contains(term)) complain("the document does not say ", List.of(term));
        }
        complain("terms.md leaves out ", Sentences.unquoted(document.terms, terms));
    }

    private static void complain(String what, List<String> sentences) {
        for (String sentence : sentences) {
            wrong++;
            System.out.println(what + sentence);
        }
    }
}
