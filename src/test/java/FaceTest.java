import java.lang.reflect.Constructor;
import java.lang.reflect.Field;
import java.lang.reflect.Method;
import java.lang.reflect.Modifier;
import java.util.Set;
import java.util.TreeSet;

/** The class has the document's public face and nothing beside it (LANGUAGE.md, rule 1). */
public final class FaceTest {
    private static final String I = "IndexOutOfBoundsException";
    private static final String A = "IllegalArgumentException";
    private static final String S = "IllegalStateException";

    // Return type, name, parameter types (i int, b boolean) and exceptions, as the document writes them.
    private static final String[] FACE = {
        "int begin ii " + I + A, "int beginAs ii " + I, "int ensure ii " + I + A, "int word ii " + I + A + S,
        "int sign ii " + I + A + S, "int point ii " + I + A + S, "int number ii " + I + S,
        "int longNumber iii " + I + S, "int truth ib " + I + S, "int row ii " + I + A + S,
        "int rowPart iiii " + I + A + S, "int nothing ib " + I + S, "int rope ii " + I + S,
        "int ropePart iiii " + I + A + S, "int putWord iii " + I + A + S, "int putSign iii " + I + A + S,
        "int putNumber iii " + I + S, "int putLong iiii " + I + S, "int putTruth iib " + I + S,
        "int putRow iii " + I + A + S, "int putRowPart iiiii " + I + A + S, "int putNothing iib " + I + S,
        "int putRope iii " + I + S, "int putPart iiiii " + I + A + S, "int replace iiii " + I + A + S,
        "int replaceBy iiii " + I + A + S, "int delete iii " + I + A, "int deleteAt ii " + I,
        "int setSign iii " + I + A, "int turn i " + I, "int setLength ii " + I + A, "String text i " + I,
        "int length i " + I, "int at ii " + I, "String part iii " + I + A, "String rest ii " + I + A,
        "int find iib " + I + A, "int findFrom iiib " + I + A, "int findNothing ib " + I, "int compare ii " + I,
        "int compareNothing i " + I, "int hash i " + I, "String wordText i " + A, "int knock  ", "int house i " + A,
        "boolean isSound  ", "long digest  "};

    public static void main(String[] args) {
        Due due = new Due();
        Set<String> found = new TreeSet<>();
        Set<String> names = new TreeSet<>();
        for (Method method : Signrope.class.getDeclaredMethods()) {
            if (Modifier.isPublic(method.getModifiers())) {
                found.add(told(method));
                names.add(method.getName());
                due.is(method.getName() + " is static", false, Modifier.isStatic(method.getModifiers()));
            }
        }
        due.is("the face", new TreeSet<>(Set.of(FACE)), found);
        for (Method method : Signrope.class.getDeclaredMethods()) {
            if (!Modifier.isPublic(method.getModifiers())) {
                due.is(method.getName() + " is private", true, Modifier.isPrivate(method.getModifiers()));
                due.is(method.getName() + " bears a public name", false, names.contains(method.getName()));
            }
        }
        for (Field field : Signrope.class.getDeclaredFields()) {
            due.is(field.getName() + " is private", true, Modifier.isPrivate(field.getModifiers()));
            boolean isStatic = Modifier.isStatic(field.getModifiers());
            due.is(field.getName() + " is final if static", true, !isStatic || Modifier.isFinal(field.getModifiers()));
        }
        for (Class<?> inner : Signrope.class.getDeclaredClasses()) {
            due.is(inner.getName() + " is static", true, Modifier.isStatic(inner.getModifiers()));
            due.is(inner.getName() + " is public", false, Modifier.isPublic(inner.getModifiers()));
            for (Method method : inner.getDeclaredMethods()) {
                due.is(method.getName() + " bears a public name", false, names.contains(method.getName()));
            }
        }
        Constructor<?>[] constructors = Signrope.class.getDeclaredConstructors();
        due.is("constructors", 1, constructors.length);
        due.is("its parameters", 0, constructors[0].getParameterCount());
        due.is("it is public", true, Modifier.isPublic(constructors[0].getModifiers()));
        due.is("the class", Modifier.PUBLIC | Modifier.FINAL, Signrope.class.getModifiers());
        due.is("its package", "", Signrope.class.getPackageName());
        due.end();
    }

    private static String told(Method method) {
        StringBuilder told = new StringBuilder();
        told.append(method.getReturnType().getSimpleName()).append(' ').append(method.getName()).append(' ');
        for (Class<?> type : method.getParameterTypes()) {
            told.append(type.getSimpleName().charAt(0));
        }
        told.append(' ');
        for (Class<?> type : method.getExceptionTypes()) {
            told.append(type.getSimpleName());
        }
        return told.toString();
    }
}
