import java.io.IOException;
import java.lang.reflect.Method;
import java.lang.reflect.Modifier;
import java.nio.file.Files;
import java.nio.file.Path;
import java.util.Set;
import java.util.TreeSet;
import java.util.regex.Matcher;
import java.util.regex.Pattern;

/** Makes the calls of README.md's example in their order: each answers what README.md says behind it. */
public final class ReadmeTest {
    private static final Check CHECK = new Check("ReadmeTest");
    private static final Pattern CALL = Pattern.compile("x\\.(\\w+)\\(([^)]*)\\);");

    public static void main(String[] args) throws IOException, ReflectiveOperationException {
        String readme = Files.readString(Path.of("README.md"));
        SpeciesSolver x = new SpeciesSolver();
        Set<String> called = new TreeSet<>();
        for (String line : exampleOf(readme).split("\n")) {
            if (line.startsWith("x.")) {
                askLine(x, line, called);
            }
        }
        for (Method method : SpeciesSolver.class.getDeclaredMethods()) {
            if (Modifier.isPublic(method.getModifiers())) {
                CHECK.due("README.md calls " + method.getName(), called.contains(method.getName()), true);
            }
        }
        CHECK.due("README.md says how the tests are run", readme.contains("```sh\n.ci/run\n```"), true);
        CHECK.end();
    }

    private static String exampleOf(String readme) {
        String fence = "```java\n";
        int from = readme.indexOf(fence) + fence.length();
        return readme.substring(from, readme.indexOf("```", from));
    }

    private static void askLine(SpeciesSolver x, String line, Set<String> called) throws ReflectiveOperationException {
        String[] parts = line.split("// ");
        String[] answers = parts[1].split(":")[0].split(", ");
        Matcher calls = CALL.matcher(parts[0]);
        int asked = 0;
        while (calls.find()) {
            String answer = asked < answers.length ? answers[asked].strip() : "nothing";
            CHECK.due(calls.group(), answerOf(x, calls.group(1), calls.group(2)), answer);
            called.add(calls.group(1));
            asked++;
        }
        CHECK.due("calls of: " + line, asked, answers.length);
    }

    private static String answerOf(SpeciesSolver x, String name, String list) throws ReflectiveOperationException {
        String[] written = list.isEmpty() ? new String[0] : list.split(", ");
        Class<?>[] types = new Class<?>[written.length];
        Object[] arguments = new Object[written.length];
        for (int i = 0; i < written.length; i++) {
            boolean truth = written[i].equals("true") || written[i].equals("false");
            types[i] = truth ? boolean.class : int.class;
            arguments[i] = truth ? (Object) Boolean.valueOf(written[i]) : (Object) Integer.valueOf(written[i]);
        }
        return String.valueOf(SpeciesSolver.class.getMethod(name, types).invoke(x, arguments));
    }
}
