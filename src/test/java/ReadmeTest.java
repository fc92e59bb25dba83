import java.io.File;
import java.lang.reflect.Method;
import java.lang.reflect.Modifier;
import java.nio.charset.StandardCharsets;
import java.nio.file.Files;
import java.nio.file.Path;
import java.util.ArrayList;
import java.util.List;
import java.util.regex.Matcher;
import java.util.regex.Pattern;

/** README.md tells the truth: its example, its table of calls and its table of tests; run from the project's folder. */
public final class ReadmeTest {
    // A line of the example: the call, and behind "//" what it answers, up to the ":" that begins what it means.
    private static final Pattern EXAMPLE = Pattern.compile("(?m)^ropes\\.(\\w+)\\((.*)\\); +// ([^:\n]*)(:.*)?$");

    private static final Due due = new Due();

    public static void main(String[] args) throws Exception {
        String readme = Files.readString(Path.of("README.md"), StandardCharsets.UTF_8);
        example(readme);
        for (Method method : Signrope.class.getDeclaredMethods()) {
            if (Modifier.isPublic(method.getModifiers())) {
                due.is("the table of calls names " + method.getName(), true, isInTable(readme, method.getName()));
            }
        }
        for (String file : new File("src/test/java").list()) {
            if (file.endsWith("Test.java")) {
                String name = file.substring(0, file.length() - ".java".length());
                due.is("the table of tests names " + name, true, isInTable(readme, name));
            }
        }
        due.end();
    }

    private static boolean isInTable(String readme, String name) {
        return readme.lines().anyMatch(line -> line.startsWith("|") && line.split("\\|")[1].contains("`" + name + "`"));
    }

    private static void example(String readme) throws Exception {
        Signrope ropes = new Signrope();
        int calls = 0;
        for (Matcher line = EXAMPLE.matcher(readme); line.find(); calls++) {
            List<Object> arguments = new ArrayList<>();
            for (String argument : line.group(2).split(", ")) {
                arguments.add(argument.matches("true|false") ? (Object) Boolean.valueOf(argument) : Integer.valueOf(argument));
            }
            Object answer = methodOf(line.group(1)).invoke(ropes, arguments.toArray());
            due.is("the example's " + line.group(), line.group(3), String.valueOf(answer));
        }
        due.is("calls of the example", 10, calls);
    }

    private static Method methodOf(String name) {
        for (Method method : Signrope.class.getDeclaredMethods()) {
            if (method.getName().equals(name)) {
                return method;
            }
        }
        throw new IllegalArgumentException("README.md calls " + name + ", which is no method");
    }
}
