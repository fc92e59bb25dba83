import java.io.IOException;
import java.lang.reflect.Constructor;
import java.lang.reflect.Executable;
import java.lang.reflect.Field;
import java.lang.reflect.Method;
import java.lang.reflect.Modifier;
import java.nio.charset.StandardCharsets;
import java.nio.file.Files;
import java.nio.file.Path;
import java.util.ArrayList;
import java.util.List;
import java.util.Set;
import java.util.StringJoiner;
import java.util.TreeSet;
import java.util.regex.Matcher;
import java.util.regex.Pattern;

/** The class has the face that the document shows and nothing beside it (LANGUAGE.md, rule 1); run from the project's folder. */
public final class FaceTest {
    private static final Pattern SHOWN = Pattern.compile("(?m)^    public (.*\\)[^;\n]*);$");
    private static final Pattern PROMISED = Pattern.compile("(?m)^## Promise \\d+: .*\n\n`(.*)`$");
    private static final Pattern WRITTEN = Pattern.compile("(?m)^    public ([^;{=]*\\)[^;{=]*?)\\s*\\{");

    private static final Due due = new Due();

    public static void main(String[] args) throws IOException {
        String document = Files.readString(Path.of("../shared/DOC.md"), StandardCharsets.UTF_8);
        String source = Files.readString(Path.of("src/main/java/Signrope.java"), StandardCharsets.UTF_8);
        List<String> shown = signatures(SHOWN, document);
        due.is("signatures are read from the document", 48, shown.size());
        sameInOrder("the promises' signatures", shown, signatures(PROMISED, document));
        sameInOrder("the source, with the parameters' names,", shown, signatures(WRITTEN, source));
        members(shown);
        inner();
        due.is("the class", Modifier.PUBLIC | Modifier.FINAL, Signrope.class.getModifiers());
        due.is("its package", "", Signrope.class.getPackageName());
        due.end();
    }

    private static List<String> signatures(Pattern pattern, String text) {
        List<String> found = new ArrayList<>();
        for (Matcher matcher = pattern.matcher(text); matcher.find();) {
            found.add(matcher.group(1).replaceAll("\\s+", " "));
        }
        return found;
    }

    private static void sameInOrder(String told, List<String> want, List<String> got) {
        due.is(told + " are as many", want.size(), got.size());
        for (int k = 0; k < Math.min(want.size(), got.size()); k++) {
            due.is(told + " at " + (k + 1), want.get(k), got.get(k));
        }
    }

    private static void members(List<String> shown) {
        Set<String> want = new TreeSet<>();
        for (String signature : shown) {
            want.add(signature.replaceAll("(int|boolean) \\w+(?=[,)])", "$1"));
        }
        Set<String> found = new TreeSet<>();
        Set<String> names = publicNames();
        for (Constructor<?> constructor : Signrope.class.getDeclaredConstructors()) {
            found.add(told("Signrope", constructor));
        }
        for (Method method : Signrope.class.getDeclaredMethods()) {
            if (Modifier.isPublic(method.getModifiers())) {
                found.add(told(method.getReturnType().getSimpleName() + " " + method.getName(), method));
                due.is(method.getName() + " is static", false, Modifier.isStatic(method.getModifiers()));
            } else {
                due.is(method.getName() + " is private", true, Modifier.isPrivate(method.getModifiers()));
                due.is(method.getName() + " bears a public name", false, names.contains(method.getName()));
            }
        }
        Set<String> beside = new TreeSet<>(found);
        beside.removeAll(want);
        want.removeAll(found);
        due.is("what the face shows and the class lacks", Set.of(), want);
        due.is("what the class has beside the face", Set.of(), beside);
        for (Field field : Signrope.class.getDeclaredFields()) {
            due.is(field.getName() + " is private", true, Modifier.isPrivate(field.getModifiers()));
            boolean isStatic = Modifier.isStatic(field.getModifiers());
            due.is(field.getName() + " is final if static", true, !isStatic || Modifier.isFinal(field.getModifiers()));
        }
    }

    private static void inner() {
        Set<String> names = publicNames();
        for (Class<?> inner : Signrope.class.getDeclaredClasses()) {
            due.is(inner.getName() + " is static", true, Modifier.isStatic(inner.getModifiers()));
            due.is(inner.getName() + " is public", false, Modifier.isPublic(inner.getModifiers()));
            for (Method method : inner.getDeclaredMethods()) {
                due.is(method.getName() + " bears a public name", false, names.contains(method.getName()));
            }
        }
    }

    private static Set<String> publicNames() {
        Set<String> names = new TreeSet<>();
        for (Method method : Signrope.class.getDeclaredMethods()) {
            if (Modifier.isPublic(method.getModifiers())) {
                names.add(method.getName());
            }
        }
        return names;
    }

    /** A member as the document writes it, but for the parameters' names; what is not public says so. */
    private static String told(String name, Executable member) {
        StringJoiner types = new StringJoiner(", ", "(", ")");
        for (Class<?> type : member.getParameterTypes()) {
            types.add(type.getSimpleName());
        }
        StringJoiner thrown = new StringJoiner(", ", " throws ", "").setEmptyValue("");
        for (Class<?> type : member.getExceptionTypes()) {
            thrown.add(type.getSimpleName());
        }
        return (Modifier.isPublic(member.getModifiers()) ? "" : "not public: ") + name + types + thrown;
    }
}
