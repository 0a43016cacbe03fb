import java.io.IOException;
import java.lang.reflect.Constructor;
import java.lang.reflect.Field;
import java.lang.reflect.Method;
import java.lang.reflect.Modifier;
import java.nio.file.Files;
import java.nio.file.Path;
import java.util.Set;
import java.util.TreeSet;
import java.util.regex.Matcher;
import java.util.regex.Pattern;

/** The face of the class is the document's, and its text keeps to what LANGUAGE.md leaves. */
public final class FaceTest {
    private static final Check CHECK = new Check("FaceTest");
    private static final Set<String> FACE = new TreeSet<>(Set.of(
            "int table(int)", "int set(int,int,int)", "int at(int,int)", "int law(int)", "int breaks(int)",
            "int flat()", "int ways()", "long bulk(int)", "int add(int,int)", "int peel(int)",
            "int left(int,int)", "int line(int,int,int)", "int best(int)", "int centres(int,int,int)",
            "int number(int,int)", "int signs(int,int)", "int least(int,int)", "int count()"));

    public static void main(String[] args) throws IOException {
        theClass();
        methods();
        fields();
        classesInside();
        text();
        objectsMade();
        methodLengths();
        CHECK.end();
    }

    private static void theClass() {
        int modifiers = FewWays.class.getModifiers();
        CHECK.holds("the class is public and final", Modifier.isPublic(modifiers) && Modifier.isFinal(modifiers));
        CHECK.holds("it has no package", FewWays.class.getPackageName().isEmpty());
        Constructor<?>[] constructors = FewWays.class.getDeclaredConstructors();
        CHECK.due("constructors", constructors.length, 1);
        CHECK.due("parameters of it", constructors[0].getParameterCount(), 0);
        CHECK.holds("it is public", Modifier.isPublic(constructors[0].getModifiers()));
    }

    private static String told(Method method) {
        StringBuilder text = new StringBuilder();
        text.append(method.getReturnType()).append(' ').append(method.getName()).append('(');
        String between = "";
        for (Class<?> parameter : method.getParameterTypes()) {
            text.append(between).append(parameter);
            between = ",";
        }
        return text.append(')').toString();
    }

    private static void methods() {
        Set<String> open = new TreeSet<>();
        for (Method method : FewWays.class.getDeclaredMethods()) {
            if (!Modifier.isPrivate(method.getModifiers()) && !method.isSynthetic()) {
                open.add(told(method));
                CHECK.holds(told(method) + " is public", Modifier.isPublic(method.getModifiers()));
                CHECK.holds(told(method) + " is of an object", !Modifier.isStatic(method.getModifiers()));
                CHECK.due("exceptions of " + told(method), method.getExceptionTypes().length, 0);
            }
        }
        CHECK.holds("the methods are the document's: " + open, open.equals(FACE));
    }

    private static void fields() {
        Set<String> open = new TreeSet<>();
        for (Field field : FewWays.class.getDeclaredFields()) {
            int modifiers = field.getModifiers();
            if (!Modifier.isPrivate(modifiers)) {
                open.add(field.getName());
                CHECK.holds(field + " is a public constant",
                        Modifier.isPublic(modifiers) && Modifier.isStatic(modifiers) && field.getType() == int.class);
            }
        }
        CHECK.holds("the constants are the document's: " + open, open.equals(Set.of("BAD", "NO", "NONE")));
    }

    private static void classesInside() {
        Class<?>[] inside = FewWays.class.getDeclaredClasses();
        CHECK.holds("there are some twelve classes at most", inside.length + 1 <= 12);
        Set<String> names = new TreeSet<>();
        for (String method : FACE) {
            names.add(method.substring(method.indexOf(' ') + 1, method.indexOf('(')));
        }
        checkMembers(FewWays.class, names);
        for (Class<?> some : inside) {
            int modifiers = some.getModifiers();
            CHECK.holds(some + " is static", Modifier.isStatic(modifiers));
            CHECK.holds(some + " is not open", !Modifier.isPublic(modifiers) && !Modifier.isProtected(modifiers));
            checkMembers(some, names);
        }
    }

    private static void checkMembers(Class<?> some, Set<String> names) {
        int fields = 0;
        for (Field field : some.getDeclaredFields()) {
            int modifiers = field.getModifiers();
            fields += Modifier.isStatic(modifiers) ? 0 : 1;
            CHECK.holds(field + " is not static or final", !Modifier.isStatic(modifiers) || Modifier.isFinal(modifiers));
        }
        CHECK.holds(some + " has some twenty fields at most", fields <= 20);
        for (Method method : some.getDeclaredMethods()) {
            boolean ofFace = some == FewWays.class && Modifier.isPublic(method.getModifiers());
            CHECK.holds(method + " does not bear a name of the face", ofFace || !names.contains(method.getName()));
            CHECK.holds(method + " has seven parameters at most", method.getParameterCount() <= 7);
        }
    }

    private static String source() throws IOException {
        return Files.readString(Path.of("src/main/java/FewWays.java"));
    }

    /** All calls of one run share one room: what an object needs is made with it, and once. */
    private static void objectsMade() throws IOException {
        for (String line : source().lines().toList()) {
            boolean field = line.strip().startsWith("private final ");
            CHECK.holds("no call makes what stands in: " + line.strip(), field || !line.contains("new "));
        }
    }

    /** A method begins at a line that ends with ") {" and ends at the brace that stands as far in. */
    private static void methodLengths() throws IOException {
        Pattern method = Pattern.compile("(?m)^((?: {4}){1,2})\\w[^\\n]*\\) \\{\\n(?s:(.*?))^\\1\\}");
        Matcher found = method.matcher(source());
        int methods = 0;
        while (found.find()) {
            methods++;
            long lines = found.group(2).lines().count();
            CHECK.holds("a method has some sixty lines at most: " + found.group().lines().findFirst().get(), lines <= 60);
        }
        CHECK.holds("there are methods: " + methods, methods > FACE.size());
    }

    private static void text() throws IOException {
        String source = source();
        String[] ruledOut = {
            "import ", "package ", "->", "::", "finally", "synchronized", "assert ", "try ", "catch", "throw",
            "native ", "volatile", "transient", "double", "float", "hashCode", "equals", "toString", "System.",
            "Thread", "Object", "List", "String", "var ", "yield", "Exact(", "\""
        };
        for (String word : ruledOut) {
            CHECK.holds("the text does without '" + word + "'", !source.contains(word));
        }
        boolean plain = true;
        for (int at = 0; at < source.length(); at++) {
            plain &= source.charAt(at) < 128;
        }
        CHECK.holds("the text has signs below 128 alone", plain);
    }
}
