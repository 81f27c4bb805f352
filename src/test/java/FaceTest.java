import java.io.IOException;
import java.lang.reflect.Constructor;
import java.lang.reflect.Field;
import java.lang.reflect.Method;
import java.lang.reflect.Modifier;
import java.lang.reflect.Parameter;
import java.nio.file.Files;
import java.nio.file.Path;
import java.util.ArrayList;
import java.util.Arrays;
import java.util.List;
import java.util.Set;
import java.util.TreeSet;
import java.util.regex.Matcher;
import java.util.regex.Pattern;
import java.util.stream.Collectors;

/** "The public face" and "the interface says" of ../shared/DOC.md, beside the compiled class and its source. */
public final class FaceTest {
    private static final Pattern CONSTANT = Pattern.compile("(\\w+) = (-?\\d+)");
    private static final Pattern METHOD = Pattern.compile("public \\w+ (\\w+)\\(.*\\)");
    private static final Pattern PART = Pattern.compile("Ahead of the calls (.*) the interface says: ---- (.*)\\.\n");
    private static int wrong = 0;

    public static void main(String[] args) throws IOException, IllegalAccessException {
        String document = Files.readString(Path.of("../shared/DOC.md"));
        List<String> told = facesLines(document);
        sameAll("constant", constantsTold(told), constantsMade());
        sameAll("method", methodsTold(told), methodsMade());
        same("constructors", told.contains("public ReservoirWall()") ? "[public ReservoirWall()]" : "not told", constructors());
        same("the class", told.get(0), Modifier.toString(ReservoirWall.class.getModifiers()) + " class ReservoirWall {");
        String source = Files.readString(Path.of("src/main/java/ReservoirWall.java"));
        same("calls in the source", namesOf(told), namesOf(Arrays.asList(source.split("\n"))));
        parts(document, source);
        System.out.println(wrong == 0 ? "the face is the document's" : wrong + " parts of the face are not the document's");
        if (wrong != 0) System.exit(1);
    }

    private static void same(String what, Object want, Object got) {
        if (want.toString().equals(got.toString())) return;
        wrong++;
        System.out.println("the face, " + what + ": due is " + want + "\n    but there is " + got);
    }

    private static void sameAll(String what, Set<String> want, Set<String> got) {
        for (String one : want) {
            if (!got.contains(one)) same(what, one, "none such");
        }
        for (String one : got) {
            if (!want.contains(one)) same(what, "none such", one);
        }
        if (want.isEmpty()) same(what, "some", "none told");
    }

    private static List<String> facesLines(String document) {
        String block = document.substring(document.indexOf("```java\n") + 8);
        return Arrays.stream(block.substring(0, block.indexOf("```")).split("\n"))
            .map(line -> line.strip().replaceAll(";$", "")).collect(Collectors.toList());
    }

    private static Set<String> constantsTold(List<String> told) {
        Set<String> constants = new TreeSet<>();
        for (String line : told) {
            Matcher constant = CONSTANT.matcher(line.startsWith("public static final int ") ? line : "");
            while (constant.find()) constants.add(constant.group(1) + " = " + constant.group(2));
        }
        return constants;
    }

    private static Set<String> constantsMade() throws IllegalAccessException {
        Set<String> constants = new TreeSet<>();
        for (Field field : ReservoirWall.class.getFields()) {
            boolean asTold = field.getType() == int.class && Modifier.isStatic(field.getModifiers()) && Modifier.isFinal(field.getModifiers());
            constants.add(field.getName() + " = " + (asTold ? field.getInt(null) : field));
        }
        return constants;
    }

    private static Set<String> methodsTold(List<String> told) {
        return told.stream().filter(line -> METHOD.matcher(line).matches()).collect(Collectors.toCollection(TreeSet::new));
    }

    private static Set<String> methodsMade() {
        Set<String> methods = new TreeSet<>();
        for (Method method : ReservoirWall.class.getMethods()) {
            if (method.getDeclaringClass() != ReservoirWall.class) continue;
            String parameters = Arrays.stream(method.getParameters()).map(FaceTest::parameter).collect(Collectors.joining(", "));
            String throwing = method.getExceptionTypes().length == 0 ? "" : " throws";
            methods.add(Modifier.toString(method.getModifiers()) + " " + method.getReturnType() + " " + method.getName() + "(" + parameters + ")" + throwing);
        }
        return methods;
    }

    private static String parameter(Parameter parameter) {
        return parameter.getType() + " " + parameter.getName();
    }

    private static List<String> constructors() {
        List<String> constructors = new ArrayList<>();
        for (Constructor<?> constructor : ReservoirWall.class.getConstructors()) constructors.add(constructor.toString());
        return constructors;
    }

    private static List<String> namesOf(List<String> lines) {
        List<String> names = new ArrayList<>();
        for (String line : lines) {
            Matcher method = METHOD.matcher(line.strip().replaceAll(" \\{$", ""));
            if (method.matches()) names.add(method.group(1));
        }
        return names;
    }

    /** Each part of the source stands behind its heading, as the interface's does. */
    private static void parts(String document, String source) {
        Matcher part = PART.matcher(document);
        int parts = 0;
        while (part.find()) {
            parts++;
            int from = source.indexOf("    // ---- " + part.group(2) + "\n");
            int to = from < 0 ? -1 : source.indexOf("    // ---- ", from + 1);
            if (to < 0) same("heading", part.group(2), "none");
            else same("calls behind " + part.group(2), part.group(1).replace("`", ""), String.join(", ", namesOf(Arrays.asList(source.substring(from, to).split("\n")))));
        }
        same("parts", 7, parts);
    }
}
