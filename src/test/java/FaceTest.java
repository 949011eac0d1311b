import java.io.IOException;
import java.lang.reflect.Constructor;
import java.lang.reflect.Field;
import java.lang.reflect.Method;
import java.lang.reflect.Modifier;
import java.nio.file.Files;
import java.nio.file.Path;
import java.util.Arrays;
import java.util.Set;
import java.util.TreeSet;
import java.util.stream.Collectors;
import java.util.stream.Stream;

/** The face has what the document names and nothing else, and the source nothing that its language rules out. */
public final class FaceTest {
    private static final String[] FACE = {
        "boolean covers() throws IllegalArgumentException",
        "boolean write(char)",
        "int count(int)",
        "int filters(int, int, boolean)",
        "int publish(int, int, int) throws IllegalArgumentException",
        "int read(int) throws IllegalArgumentException, NoSuchElementException",
        "int run()",
        "int subscribe(int) throws IllegalArgumentException, IllegalStateException",
        "int take(int, int) throws NoSuchElementException",
        "int waiting(int, int)",
        "void unsubscribe(int) throws NoSuchElementException",
    };
    private static final String[] RULED_OUT = {
        "->", "::", "synchronized", "assert", "finally", "try {", "catch", "package ", "static {", "Exact(", "System.out",
        "Object", "double", "float", "hashCode", "toString", "HashMap", "random", "Thread", "protected"
    };

    public static void main(String[] args) throws IOException {
        due("class", Modifier.toString(BrokerTree.class.getModifiers()), "public final");
        constructors();
        methods();
        fields();
        classesInside();
        sizes();
        source();
        Checks.end("FaceTest");
    }

    private static void due(String what, Object got, Object want) {
        Checks.due(what, got, want);
    }

    private static void constructors() {
        Constructor<?>[] constructors = BrokerTree.class.getDeclaredConstructors();
        due("constructors", constructors.length, 1);
        due("constructor", constructors[0].toString(), "public BrokerTree(int)");
    }

    private static void methods() {
        Set<String> open = new TreeSet<>();
        Set<String> names = new TreeSet<>();
        for (Method method : BrokerTree.class.getDeclaredMethods()) {
            if (!Modifier.isPrivate(method.getModifiers())) {
                due("modifiers of " + method, Modifier.toString(method.getModifiers()), "public");
                open.add(written(method));
                names.add(method.getName());
            }
        }
        due("methods", open, new TreeSet<>(Arrays.asList(FACE)));
        allClasses().flatMap(type -> Stream.of(type.getDeclaredMethods()))
                .filter(method -> Modifier.isPrivate(method.getModifiers()))
                .forEach(method -> due("name of " + method, names.contains(method.getName()), false));
    }

    private static Stream<Class<?>> allClasses() {
        return Stream.concat(Stream.of(BrokerTree.class), Stream.of(BrokerTree.class.getDeclaredClasses()));
    }

    /** LANGUAGE.md 11: few parameters, and few fields beside the constants. */
    private static void sizes() {
        allClasses().forEach(type -> {
            long fields = Stream.of(type.getDeclaredFields()).filter(field -> !Modifier.isStatic(field.getModifiers())).count();
            due("few fields: " + type, fields <= 20, true);
            for (Method method : type.getDeclaredMethods()) {
                due("few parameters: " + method, method.getParameterCount() <= 7, true);
            }
        });
    }

    private static String written(Method method) {
        String text = method.getReturnType().getSimpleName() + " " + method.getName() + "(" + joined(method.getParameterTypes()) + ")";
        return method.getExceptionTypes().length == 0 ? text : text + " throws " + joined(method.getExceptionTypes());
    }

    private static String joined(Class<?>[] types) {
        return Stream.of(types).map(Class::getSimpleName).collect(Collectors.joining(", "));
    }

    private static void fields() {
        for (Field field : BrokerTree.class.getDeclaredFields()) {
            due("private: " + field, Modifier.isPrivate(field.getModifiers()), true);
        }
    }

    private static void classesInside() {
        Class<?>[] inside = BrokerTree.class.getDeclaredClasses();
        due("few classes", inside.length < 12, true);
        for (Class<?> type : inside) {
            due("static: " + type, Modifier.isStatic(type.getModifiers()), true);
            due("public: " + type, Modifier.isPublic(type.getModifiers()), false);
            for (Field field : type.getDeclaredFields()) {
                due("no static state: " + field, Modifier.isStatic(field.getModifiers()), false);
            }
        }
    }

    private static void source() throws IOException {
        String source = Files.readString(Path.of("src/main/java/BrokerTree.java"));
        for (String word : RULED_OUT) {
            due("source has " + word, source.contains(word), false);
        }
        for (String line : source.split("\n")) {
            if (line.startsWith("import ")) {
                due(line, line.matches("import java\\.util\\.(ArrayList|NoSuchElementException);"), true);
            }
            if (line.contains("throw ")) {
                due(line, line.matches(" +throw new (IllegalArgument|IllegalState|NoSuchElement)Exception\\(\\);"), true);
            }
        }
    }
}
