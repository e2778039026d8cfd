import java.io.IOException;
import java.lang.reflect.Executable;
import java.lang.reflect.Field;
import java.lang.reflect.Modifier;
import java.nio.file.Files;
import java.nio.file.Path;
import java.util.ArrayList;
import java.util.Arrays;
import java.util.List;
import java.util.Set;
import java.util.regex.Matcher;
import java.util.regex.Pattern;
import java.util.stream.Stream;

/** The rules of LANGUAGE.md that the source's text and the class's shape can show. */
public final class LanguageTest {
    private static final Path SOURCES = Path.of("src/main/java");
    private static final Set<String> LIBRARY = Set.of("Math.max", "Math.min", "Math.floorDiv",
            "Integer.bitCount");
    private static final Checks CHECKS = new Checks();

    public static void main(String[] args) throws IOException {
        String code = bare(Files.readString(SOURCES.resolve("HeatMachines.java")));
        oneFile();
        noForbiddenWords(code);
        libraryAsListed(code);
        throwsAsTold(code);
        noThrowInConstructors(code);
        shortMethods(code);
        for (Class<?> each : allClasses()) {
            shapeOf(each);
        }
        CHECKS.is("rule 11: classes", allClasses().size() <= 12, true);
        CHECKS.end("LanguageTest");
    }

    /** The code without comments, every written text as "". */
    private static String bare(String source) {
        return source.replaceAll("(?s)/\\*.*?\\*/", "").replaceAll("//[^\n]*", "")
                .replaceAll("\"[^\"\n]*\"", "\"\"");
    }

    private static void oneFile() throws IOException {
        try (Stream<Path> files = Files.walk(SOURCES)) {
            List<String> names = files.filter(Files::isRegularFile).map(Path::toString).toList();
            CHECKS.is("one file", names.toString(), "[src/main/java/HeatMachines.java]");
        }
    }

    private static void noForbiddenWords(String code) {
        String[] words = {"package", "import", "try", "catch", "finally", "synchronized", "assert",
            "volatile", "native", "protected", "var", "Object", "Thread", "Random", "System", "equals",
            "hashCode", "toString", "getMessage"};
        for (String word : words) {
            CHECKS.is("no " + word, code.matches("(?s).*\\b" + word + "\\b.*"), false);
        }
        for (String sign : new String[] {"->", "::", "@", "static {"}) {
            CHECKS.is("no " + sign, code.contains(sign), false);
        }
    }

    private static void libraryAsListed(String code) {
        Matcher used = Pattern.compile("\\b[A-Z][a-z]\\w*\\.\\w+").matcher(code);
        while (used.find()) {
            String name = used.group();
            CHECKS.is(name, LIBRARY.contains(name) || name.startsWith("Machine."), true);
        }
    }

    private static void throwsAsTold(String code) {
        Matcher thrown = Pattern.compile("\\bthrow\\b[^;]*;").matcher(code);
        while (thrown.find()) {
            CHECKS.is("rule 6: " + thrown.group(), thrown.group()
                    .matches("throw new Illegal(Argument|State)Exception\\((\"\")?\\);"), true);
        }
    }

    private static void noThrowInConstructors(String code) {
        for (String body : bodies(code, "\\b([A-Z]\\w*)\\([^)]*\\) \\{")) {
            CHECKS.is("rule 6: a constructor throws nothing", body.contains("throw"), false);
        }
    }

    private static void shortMethods(String code) {
        for (String body : bodies(code, "\\b(\\w+)\\([^)]*\\)(\\s+throws [\\w, ]+)? \\{")) {
            CHECKS.is("rule 11: " + body, body.split("\n").length <= 60, true);
        }
    }

    /** What stands between the brace that ends a head and its counterpart. */
    private static List<String> bodies(String code, String head) {
        List<String> found = new ArrayList<>();
        Matcher at = Pattern.compile(head).matcher(code);
        while (at.find()) {
            int depth = 1;
            int end = at.end();
            while (end < code.length() && depth > 0) {
                depth += code.charAt(end) == '{' ? 1 : code.charAt(end) == '}' ? -1 : 0;
                end++;
            }
            found.add(code.substring(at.start(), end));
        }
        return found;
    }

    private static List<Class<?>> allClasses() {
        List<Class<?>> all = new ArrayList<>(Arrays.asList(HeatMachines.class.getDeclaredClasses()));
        all.add(HeatMachines.class);
        return all;
    }

    private static void shapeOf(Class<?> each) {
        String name = each.getSimpleName();
        if (each != HeatMachines.class) {
            int kind = each.getModifiers();
            CHECKS.is("rule 1: " + name + " is hidden", Modifier.isPublic(kind), false);
            CHECKS.is("rule 1: " + name + " is static", Modifier.isStatic(kind), true);
        }
        List<Executable> calls = new ArrayList<>(Arrays.asList(each.getDeclaredMethods()));
        calls.addAll(Arrays.asList(each.getDeclaredConstructors()));
        for (Executable call : calls) {
            CHECKS.is("rule 11: " + call, call.getParameterCount() <= 7, true);
        }
        int fields = 0;
        for (Field field : each.getDeclaredFields()) {
            boolean isStatic = Modifier.isStatic(field.getModifiers());
            fields += isStatic ? 0 : 1;
            CHECKS.is("rule 3: " + field, isAllowed(field.getType()), true);
            CHECKS.is("rule 5: " + field, !isStatic || isConstant(field.getType()), true);
        }
        CHECKS.is("rule 11: fields of " + name, fields <= 20, true);
    }

    private static boolean isAllowed(Class<?> type) {
        Class<?> part = type.isArray() ? type.getComponentType() : type;
        if (part.isArray()) {
            return part.getComponentType().isPrimitive();
        }
        return part.isPrimitive() || allClasses().contains(part);
    }

    private static boolean isConstant(Class<?> type) {
        return type == int.class || type == long.class || type == int[].class;
    }
}
