import java.io.DataInputStream;
import java.io.IOException;
import java.io.InputStream;
import java.lang.reflect.Constructor;
import java.lang.reflect.Field;
import java.lang.reflect.Method;
import java.lang.reflect.Modifier;
import java.nio.file.Files;
import java.nio.file.Path;
import java.util.ArrayList;
import java.util.Arrays;
import java.util.HashSet;
import java.util.List;
import java.util.Set;
import java.util.TreeSet;
import java.util.regex.Matcher;
import java.util.regex.Pattern;

/** Those rules of ../shared/LANGUAGE.md that can be looked up in the compiled classes or in the source's lines. */
public final class LanguageTest {
    private static final Set<String> LIBRARY = Set.of(
        "java/lang/Object.<init>()V",
        "java/lang/System.arraycopy(Ljava/lang/Object;ILjava/lang/Object;II)V",
        "java/lang/Math.max(II)I",
        "java/lang/Math.max(JJ)J",
        "java/lang/Math.min(JJ)J");
    private static final Set<String> STATIC_TYPES = Set.of("int", "long", "boolean", "char", "java.lang.String", "[I", "[J", "[C", "[B");
    private static int wrong = 0;

    public static void main(String[] args) throws Exception {
        List<Class<?>> all = new ArrayList<>(List.of(ReservoirWall.class));
        all.addAll(Arrays.asList(ReservoirWall.class.getDeclaredClasses()));
        face(all);
        due("rule 11: classes", all.size() <= 12);
        for (Class<?> type : all) {
            membersOf(type);
            library(type);
        }
        source(Files.readAllLines(Path.of("src/main/java/ReservoirWall.java")));
        System.out.println(wrong == 0 ? "the rules that can be looked up are kept" : wrong + " rules are not kept");
        if (wrong != 0) System.exit(1);
    }

    private static void face(List<Class<?>> all) {
        due("rule 1: public and final", (ReservoirWall.class.getModifiers() & (Modifier.PUBLIC | Modifier.FINAL)) == (Modifier.PUBLIC | Modifier.FINAL));
        Set<String> open = new HashSet<>(), closed = new HashSet<>();
        for (Method m : ReservoirWall.class.getDeclaredMethods()) {
            due("rule 1: " + m, Modifier.isPublic(m.getModifiers()) || Modifier.isPrivate(m.getModifiers()));
            if (Modifier.isPublic(m.getModifiers())) open.add(m.getName());
        }
        for (Class<?> type : all) {
            for (Method m : type.getDeclaredMethods()) {
                if (Modifier.isPrivate(m.getModifiers())) closed.add(m.getName());
            }
        }
        due("rule 1: 82 methods", open.size() == 82);
        closed.retainAll(open);
        due("rule 1: private methods with public names " + closed, closed.isEmpty());
        Set<String> constants = new TreeSet<>();
        for (Field f : ReservoirWall.class.getDeclaredFields()) {
            due("rule 1: " + f, Modifier.isPublic(f.getModifiers()) || Modifier.isPrivate(f.getModifiers()));
            if (Modifier.isPublic(f.getModifiers())) constants.add(f.getName());
        }
        due("rule 1: constants", constants.equals(Set.of("NONE", "UNKNOWN", "OUTSIDE", "STATE", "FULL", "FAILED")));
        Constructor<?>[] made = ReservoirWall.class.getDeclaredConstructors();
        due("rule 1: one constructor", made.length == 1 && Modifier.isPublic(made[0].getModifiers()) && made[0].getParameterCount() == 0);
    }

    private static void membersOf(Class<?> type) {
        if (type != ReservoirWall.class) due("rule 1: " + type, Modifier.isStatic(type.getModifiers()) && !Modifier.isPublic(type.getModifiers()) && !Modifier.isProtected(type.getModifiers()));
        int own = 0;
        for (Field f : type.getDeclaredFields()) {
            if (!Modifier.isStatic(f.getModifiers())) own++;
            else due("rule 5: " + f, Modifier.isFinal(f.getModifiers()) && STATIC_TYPES.contains(f.getType().getName()));
        }
        due("rule 11: fields of " + type + ": " + own, own <= 20);
        for (Method m : type.getDeclaredMethods()) due("rule 11: " + m, m.getParameterCount() <= 7);
    }

    /** What a class calls stands in its constant pool. */
    private static void library(Class<?> type) throws IOException {
        try (InputStream raw = type.getResourceAsStream("/" + type.getName() + ".class"); DataInputStream in = new DataInputStream(raw)) {
            in.skipBytes(8);
            int n = in.readUnsignedShort();
            String[] texts = new String[n];
            int[][] pairs = new int[n][];
            List<Integer> calls = new ArrayList<>();
            for (int i = 1; i < n; i++) {
                int tag = in.readUnsignedByte();
                switch (tag) {
                    case 1: texts[i] = in.readUTF(); break;
                    case 3: case 4: in.skipBytes(4); break;
                    case 5: case 6: in.skipBytes(8); i++; break;
                    case 7: case 8: case 16: case 19: case 20: pairs[i] = new int[] {in.readUnsignedShort()}; break;
                    case 15: in.skipBytes(3); due("rule 2: method handle in " + type, false); break;
                    case 17: case 18: in.skipBytes(4); due("rule 2: lambda or joined text in " + type, false); break;
                    default:
                        pairs[i] = new int[] {in.readUnsignedShort(), in.readUnsignedShort()};
                        if (tag == 10 || tag == 11) calls.add(i);
                }
            }
            for (int i : calls) {
                String owner = texts[pairs[pairs[i][0]][0]];
                int[] named = pairs[pairs[i][1]];
                String call = owner + "." + texts[named[0]] + texts[named[1]];
                due("rule 4: " + call, owner.startsWith("ReservoirWall") || LIBRARY.contains(call));
            }
        }
    }

    private static void source(List<String> lines) {
        Pattern ruledOut = Pattern.compile("\\b(try|catch|finally|throw|throws|synchronized|assert|protected|package|volatile|transient|native|this\\.\\w+\\(\\))\\b|->|::|static \\{|\\b(Double|Float)\\.");
        Pattern head = Pattern.compile("^ {4,8}(public |private |static |final )*[\\w\\[\\]]+ \\w+\\(.*\\) \\{$");
        int from = -1;
        for (int i = 0; i < lines.size(); i++) {
            String line = lines.get(i), code = line.replaceAll("//.*|/?\\*.*", "");
            Matcher found = ruledOut.matcher(code);
            due("line " + (i + 1) + ": " + line, !found.find());
            due("imports, line " + (i + 1), !line.startsWith("import "));
            due("signs, line " + (i + 1), line.chars().allMatch(c -> c >= 32 && c < 127));
            if (head.matcher(line).matches()) from = i;
            if (from >= 0 && (line.equals("    }") || line.equals("        }"))) due("rule 11: lines from " + (from + 1), i - from <= 60);
        }
        due("methods were seen", from > 0);
    }

    private static void due(String what, boolean holds) {
        if (holds) return;
        wrong++;
        System.out.println("not as due: " + what);
    }
}
