import java.io.IOException;
import java.nio.file.Files;
import java.nio.file.Path;
import java.util.ArrayList;
import java.util.Arrays;
import java.util.List;
import java.util.regex.Matcher;
import java.util.regex.Pattern;

/** Reads src/test/edges: README.md tells how they are written. */
final class EdgeFile {
    private static final Pattern HEAD = Pattern.compile("## Promise (\\d+): .*");
    private static final Pattern STATEMENT = Pattern.compile("(?:(\\d+) x )?(\\w+)\\(([^)]*)\\)(?: -> (\\S+))?");

    private final String name;
    private final List<Edge> edges = new ArrayList<>();
    private int promise;
    private int line;
    private Edge edge;
    private List<Edge.Call> run;

    private EdgeFile(String name) {
        this.name = name;
    }

    static List<Edge> read(Path path) throws IOException {
        EdgeFile file = new EdgeFile(path.getFileName().toString());
        boolean quoting = false;
        for (String text : Files.readAllLines(path)) {
            file.line++;
            boolean quote = text.startsWith("> ");
            if (quote && !quoting) file.begin();
            if (quote) file.edge.sentences.add(text.substring(2).strip());
            else file.take(text.strip());
            quoting = quote;
        }
        return file.edges;
    }

    private void begin() {
        edge = new Edge(name, line, promise);
        edges.add(edge);
        newRun();
    }

    private void newRun() {
        run = new ArrayList<>();
        edge.runs.add(run);
    }

    private void take(String text) {
        Matcher head = HEAD.matcher(text);
        if (head.matches()) promise = Integer.parseInt(head.group(1));
        else if (text.equals("new")) newRun();
        else if (!text.isEmpty() && !text.startsWith("#")) {
            for (String statement : text.split(";")) state(statement.strip());
        }
    }

    private void state(String text) {
        Matcher told = STATEMENT.matcher(text);
        if (!told.matches()) throw wrong(text);
        int times = told.group(1) == null ? 1 : Integer.parseInt(told.group(1));
        List<String> args = told.group(3).isBlank() ? List.of() : Arrays.asList(told.group(3).strip().split("\\s*,\\s*"));
        for (int i = 0; i < times; i++) expand(told.group(2), args, told.group(4));
    }

    private IllegalArgumentException wrong(String text) {
        return new IllegalArgumentException(name + ":" + line + ": " + text);
    }

    private void call(String callName, String due, Object... args) {
        List<String> texts = new ArrayList<>();
        for (Object arg : args) texts.add(arg.toString());
        run.add(new Edge.Call(line, callName, texts, due));
    }

    /** Short words for many calls of one kind; what they do is told in README.md. */
    private void expand(String word, List<String> args, String due) {
        List<String> rest = args.isEmpty() ? args : args.subList(1, args.size());
        switch (word) {
            case "fill": for (int i = 0; i < rest.size(); i++) call(Face.isReal(rest.get(i)) ? "putReal" : "put", "1", args.get(0), i, rest.get(i)); break;
            case "told": for (int i = 0; i < rest.size(); i++) call(Face.isReal(rest.get(i)) ? "getReal" : "get", rest.get(i), args.get(0), i); break;
            case "hangs": for (int i = 0; i < rest.size(); i++) call("hang", "1", args.get(0), i, rest.get(i)); break;
            case "hanging": for (int i = 0; i < rest.size(); i++) call("hung", rest.get(i), args.get(0), i); break;
            case "fields": for (int i = 0; i < rest.size(); i++) call("fieldOf", rest.get(i), args.get(0), i); break;
            case "flood": for (int i = 0; i < rest.size(); i++) call("ahead", "1", args.get(0), i, rest.get(i)); break;
            case "rights": for (int i = 0; i < args.size(); i++) call("has", args.get(i), i); break;
            case "openings": for (int i = 0; i < args.size(); i++) call("lake", args.get(i), 10 + i); break;
            case "fates": for (int i = 0; i < args.size(); i++) call("heard", args.get(i), i); break;
            case "bytes": bytes(args); break;
            case "hear": hear(args); break;
            case "plan": plan(args.get(0), rest); break;
            case "forge": call("forge", null, args.toArray()); break;
            default:
                if (!Face.has(word) || Face.parameters(word) != args.size()) throw wrong(word + args);
                call(word, due, args.toArray());
        }
    }

    private void bytes(List<String> args) {
        int from = Integer.parseInt(args.get(1));
        for (int i = 2; i < args.size(); i++) call("pageByte", args.get(i), args.get(0), from + i - 2);
    }

    private void hear(List<String> readings) {
        for (int gauge = 0; gauge < readings.size(); gauge++) {
            if (!readings.get(gauge).equals("-")) call("reading", "1", gauge, readings.get(gauge));
        }
        call("run", null, "0.0", "0.0");
    }

    private void plan(String number, List<String> steps) {
        call("wipe", null, number);
        for (int i = 0; i < steps.size(); i++) {
            Object[] args = {number, "0", "0", "0", "0", "0"};
            String[] told = steps.get(i).split(" +");
            System.arraycopy(told, 0, args, 1, told.length);
            call("step", Integer.toString(i + 1), args);
        }
    }
}
