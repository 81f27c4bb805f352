import java.io.IOException;
import java.lang.reflect.Method;
import java.net.URL;
import java.net.URLClassLoader;
import java.nio.file.Files;
import java.nio.file.Path;
import java.util.regex.Matcher;
import java.util.regex.Pattern;
import java.util.stream.Stream;

/** README.md: its examples answer as they say, and it names every call and every test. */
public final class ReadmeTest {
    private static final Pattern EXAMPLE = Pattern.compile("```java\n(.*?)```", Pattern.DOTALL);
    /** A call, with the name that its answer is kept by or without, and what it answers. */
    private static final Pattern TOLD = Pattern.compile("(?:int (\\w+) = )?(\\S.*\\)); +// ([^:]+?)(?:[:,].*)?");
    private static int wrong = 0;
    private static int looked = 0;

    public static void main(String[] args) throws Exception {
        String page = Files.readString(Path.of("README.md"));
        names(page);
        examples(page);
        System.out.println("ReadmeTest: " + looked + " answers, " + wrong + " wrong");
        if (wrong != 0 || looked == 0) System.exit(1);
    }

    private static void wrong(String what) {
        wrong++;
        System.out.println("README.md: " + what);
    }

    private static void names(String page) throws IOException {
        for (Method method : ReservoirWall.class.getMethods()) {
            boolean own = method.getDeclaringClass() == ReservoirWall.class;
            if (own && !page.contains("`" + method.getName() + "`")) wrong("it does not name " + method.getName());
        }
        try (Stream<Path> tests = Files.list(Path.of("src/test/java"))) {
            tests.map(path -> path.getFileName().toString()).filter(name -> name.endsWith("Test.java")).map(name -> name.replace(".java", ""))
                .filter(name -> !page.contains("`" + name + "`")).forEach(name -> wrong("it does not name " + name));
        }
    }

    /** Makes one class of all examples, a method each, and runs it. */
    private static void examples(String page) throws Exception {
        StringBuilder code = new StringBuilder("public final class Examples {\n"
            + "static long bits(double d) { return Double.doubleToLongBits(d); }\nstatic double real(long b) { return Double.longBitsToDouble(b); }\n");
        Matcher example = EXAMPLE.matcher(page);
        int many = 0;
        while (example.find()) {
            code.append("public static void example").append(many).append("() {\n").append(looking(example.group(1))).append("}\n");
            many++;
        }
        Path made = Files.createTempDirectory("examples");
        try {
            Path file = Files.writeString(made.resolve("Examples.java"), code.append("}\n"));
            String path = System.getProperty("java.class.path");
            Process javac = new ProcessBuilder("javac", "-cp", path, "-d", made.toString(), file.toString()).inheritIO().start();
            if (javac.waitFor() != 0) wrong("its examples do not compile");
            else runAll(made, many);
        } finally {
            try (Stream<Path> files = Files.list(made)) {
                for (Path file : (Iterable<Path>) files::iterator) Files.delete(file);
            }
            Files.delete(made);
        }
    }

    private static void runAll(Path made, int many) throws Exception {
        try (URLClassLoader loader = new URLClassLoader(new URL[] {made.toUri().toURL()})) {
            Class<?> examples = loader.loadClass("Examples");
            for (int i = 0; i < many; i++) examples.getMethod("example" + i).invoke(null);
        }
    }

    /** The lines of an example, each call in them handed to due(). */
    private static String looking(String example) {
        StringBuilder code = new StringBuilder();
        for (String line : example.split("\n")) {
            Matcher told = TOLD.matcher(line.strip());
            if (!told.matches()) {
                if (line.contains("wall.") || line.contains("//")) wrong("this line tells no answer: " + line);
                code.append(line).append("\n");
                continue;
            }
            String call = told.group(2);
            if (told.group(1) != null) {
                code.append("int ").append(told.group(1)).append(" = ").append(call).append(";\n");
                call = told.group(1);
            }
            code.append("ReadmeTest.due(\"").append(told.group(2)).append("\", ").append(call).append(", ").append(told.group(3)).append(");\n");
        }
        return code.toString();
    }

    public static void due(String call, long got, long want) {
        looked++;
        if (got != want) wrong(call + " answered " + got + ", it says " + want);
    }

    public static void due(String call, double got, double want) {
        looked++;
        if (Double.compare(got, want) != 0) wrong(call + " answered " + got + ", it says " + want);
    }
}
