import java.io.IOException;
import java.lang.reflect.Field;
import java.lang.reflect.Method;
import java.lang.reflect.Modifier;
import java.nio.file.Files;
import java.nio.file.Path;
import java.util.ArrayList;
import java.util.Arrays;
import java.util.List;
import java.util.Set;
import java.util.TreeSet;
import java.util.regex.Matcher;
import java.util.regex.Pattern;

/** What of LANGUAGE.md can be seen from the class's source and its members. */
public final class LanguageTest {
    private static final Check CHECK = new Check("LanguageTest");
    private static final List<Class<?>> CLASSES = new ArrayList<>();

    public static void main(String[] args) throws IOException {
        CLASSES.add(SpeciesSolver.class);
        CLASSES.addAll(Arrays.asList(SpeciesSolver.class.getDeclaredClasses()));
        members();
        staticFields();
        String source = Files.readString(Path.of("src/main/java/SpeciesSolver.java"));
        String code = source.replaceAll("(?s)/\\*.*?\\*/", "").replaceAll("//.*", "");
        words(code);
        loops(code);
        lengths(source);
        madeInConstructorsAlone(code);
        CHECK.end();
    }

    private static void members() {
        Set<String> face = new TreeSet<>();
        for (Method method : SpeciesSolver.class.getMethods()) {
            face.add(method.getName());
        }
        for (Class<?> each : CLASSES) {
            String name = each.getSimpleName();
            int fields = 0;
            for (Field field : each.getDeclaredFields()) {
                fields += Modifier.isStatic(field.getModifiers()) ? 0 : 1;
            }
            CHECK.due("11: " + name + " has " + fields + " fields", fields <= 20, true);
            for (Method method : each.getDeclaredMethods()) {
                String what = name + "." + method.getName();
                CHECK.due("11: parameters of " + what, method.getParameterCount() <= 7, true);
                if (Modifier.isPrivate(method.getModifiers())) {
                    CHECK.due("1: " + what + " bears a public name", face.contains(method.getName()), false);
                } else {
                    CHECK.due("1: " + what + " is of the face", each == SpeciesSolver.class, true);
                }
            }
        }
        CHECK.due("11: classes", CLASSES.size() <= 12, true);
        for (Class<?> each : SpeciesSolver.class.getDeclaredClasses()) {
            CHECK.due("1: " + each + " is static", Modifier.isStatic(each.getModifiers()), true);
            CHECK.due("1: " + each + " is not public or protected",
                (each.getModifiers() & (Modifier.PUBLIC | Modifier.PROTECTED)) == 0, true);
        }
    }

    private static void staticFields() {
        Set<Class<?>> kinds = Set.of(int.class, long.class, boolean.class, char.class, String.class, int[].class,
            long[].class, char[].class, byte[].class);
        for (Class<?> each : CLASSES) {
            for (Field field : each.getDeclaredFields()) {
                if (Modifier.isStatic(field.getModifiers())) {
                    CHECK.due("5: " + field + " is final", Modifier.isFinal(field.getModifiers()), true);
                    CHECK.due("5: kind of " + field, kinds.contains(field.getType()), true);
                }
            }
        }
    }

    /** The class needs no library, no exceptions and no loop but the counting one. */
    private static void words(String code) {
        String[] absent = {"import", "package", "try", "catch", "finally", "throw", "throws", "synchronized", "assert",
            "while", "do", "instanceof", "null", "System", "Math", "Arrays", "String", "Object", "float", "double",
            "native", "volatile", "transient"};
        for (String word : absent) {
            CHECK.due("2 to 13: " + word, Pattern.compile("\\b" + word + "\\b").matcher(code).find(), false);
        }
        CHECK.due("2: lambdas and references to methods", code.contains("->") || code.contains("::"), false);
        CHECK.due("5: static blocks", Pattern.compile("static\\s*\\{").matcher(code).find(), false);
        CHECK.due("3: characters", code.chars().allMatch(c -> c < 128), true);
    }

    /** 9: A loop's counter is its own, so that nothing called from within can set it back. */
    private static void loops(String code) {
        Matcher matcher = Pattern.compile("\\bfor \\([^;{]*").matcher(code);
        while (matcher.find()) {
            CHECK.due("9: " + matcher.group(), matcher.group().startsWith("for (int "), true);
        }
    }

    private static void lengths(String source) {
        String name = "";
        int begun = 0;
        String[] lines = source.split("\n");
        Pattern head = Pattern.compile("^( {4}| {8})(public|private)[^=;]*\\) \\{$");
        for (int i = 0; i < lines.length; i++) {
            Matcher matcher = head.matcher(lines[i]);
            if (matcher.matches()) {
                name = lines[i].strip();
                begun = i;
            } else if (!name.isEmpty() && (lines[i].equals("    }") || lines[i].equals("        }"))) {
                CHECK.due("11: lines of " + name, i - begun < 60, true);
                name = "";
            }
        }
    }

    /** 12: Each new stands in a field's line or in the constructor of the class, so that no call makes an object. */
    private static void madeInConstructorsAlone(String code) {
        boolean inConstructor = false;
        for (String line : code.split("\n")) {
            inConstructor = line.equals("    public SpeciesSolver() {") || inConstructor && !line.equals("    }");
            if (line.contains("new ")) {
                boolean field = line.matches("\\s+private final \\S+ \\w+ = new .*;");
                CHECK.due("12: " + line.strip(), inConstructor || field, true);
            }
        }
    }
}
