import java.io.IOException;
import java.lang.reflect.Constructor;
import java.lang.reflect.Field;
import java.lang.reflect.Method;
import java.lang.reflect.Modifier;
import java.nio.file.Files;
import java.nio.file.Path;
import java.util.Set;
import java.util.TreeSet;

/** The face is the document's, just so, and no member but the private ones stands beside it. */
public final class FaceTest {
    private static final Set<String> FACE = Set.of(
        "int begin(int,int,int,int,long)", "int add(int,int,int)", "int take(int,int,int)",
        "int merge(int,int)", "int told(int,int)", "int span(int,int,int)", "int slot(int,int,int)",
        "int parts(int,int)", "int part(int,int,int)", "int tree(int,int,int)", "int since(int,int,int)",
        "int far(int,int,int)", "int kept(int,int,int)", "int mate(int,int)",
        "long sum(int,int,int,int)", "int out(int,long)", "int level()", "int same(int,int)");
    private static final Set<String> CONSTANTS =
        Set.of("BAD -1", "NONE -2", "APART -3", "NOTHING -4", "UNSURE -5", "FULL -6");
    private static final Path SOURCE = Path.of("src/main/java/StreamCounts.java");
    private static final Path DOCUMENT = Path.of("../shared/DOC.md");
    private static final String FACE_FROM = "```java\npublic final class StreamCounts {\n", FACE_TO = "}\n```";

    public static void main(String[] args) throws IllegalAccessException, IOException {
        Check check = new Check();
        Class<StreamCounts> type = StreamCounts.class;
        int modifiers = type.getModifiers();
        check.isTrue("public final", Modifier.isPublic(modifiers) && Modifier.isFinal(modifiers));
        Constructor<?>[] constructors = type.getDeclaredConstructors();
        check.due("constructors", constructors.length, 1);
        check.isTrue("constructor", Modifier.isPublic(constructors[0].getModifiers())
            && constructors[0].getParameterCount() == 0);
        check.due("methods", methods(check, type).equals(FACE) ? 1 : 0, 1);
        check.due("constants", constants(check, type).equals(CONSTANTS) ? 1 : 0, 1);
        for (Class<?> inside : type.getDeclaredClasses()) {
            check.isTrue("static " + inside, Modifier.isStatic(inside.getModifiers()));
            check.isTrue("hidden " + inside, !Modifier.isPublic(inside.getModifiers())
                && !Modifier.isProtected(inside.getModifiers()));
            namesDiffer(check, inside);
        }
        String source = Files.readString(SOURCE);
        if (Files.exists(DOCUMENT)) {
            linesOfTheDocument(check, source, Files.readString(DOCUMENT));
        }
        ahead(check, source, "---- the forest", "slot", "parts", "part", "tree", "since");
        ahead(check, source, "---- the thinned graph, the matching", "since", "far", "kept", "mate");
        ahead(check, source, "---- the rows", "mate", "sum", "out", "level", "same");
        check.end();
    }

    private static Set<String> methods(Check check, Class<?> type) {
        Set<String> found = new TreeSet<>();
        for (Method method : type.getDeclaredMethods()) {
            if (Modifier.isPrivate(method.getModifiers())) {
                check.isTrue("a private " + method.getName(), !isOfFace(method.getName()));
                continue;
            }
            check.isTrue("public " + method, method.getModifiers() == Modifier.PUBLIC);
            StringBuilder text = new StringBuilder();
            for (Class<?> parameter : method.getParameterTypes()) {
                text.append(text.length() == 0 ? "" : ",").append(parameter);
            }
            found.add(method.getReturnType() + " " + method.getName() + "(" + text + ")");
        }
        return found;
    }

    private static Set<String> constants(Check check, Class<?> type) throws IllegalAccessException {
        Set<String> found = new TreeSet<>();
        for (Field field : type.getDeclaredFields()) {
            int modifiers = field.getModifiers();
            if (Modifier.isStatic(modifiers)) {
                check.isTrue("final " + field, Modifier.isFinal(modifiers));
            }
            if (!Modifier.isPrivate(modifiers)) {
                check.isTrue("public static int " + field, Modifier.isPublic(modifiers)
                    && Modifier.isStatic(modifiers) && field.getType() == int.class);
                found.add(field.getName() + " " + field.getInt(null));
            }
        }
        return found;
    }

    private static void namesDiffer(Check check, Class<?> inside) {
        for (Method method : inside.getDeclaredMethods()) {
            check.isTrue(inside + " has " + method.getName(), !isOfFace(method.getName()));
        }
    }

    /** Each line of the document's face stands in the source, its parameters' names too. */
    private static void linesOfTheDocument(Check check, String source, String document) {
        int from = document.indexOf(FACE_FROM);
        int to = document.indexOf(FACE_TO, from);
        check.isTrue("the document has a face", from >= 0 && to > from);
        String[] lines = document.substring(from + FACE_FROM.length(), to).split("\n");
        check.due("lines of the face", lines.length, FACE.size() + 2);
        for (String line : lines) {
            String head = line.endsWith(");") ? line.substring(0, line.length() - 1) + " {" : line;
            check.isTrue(line, source.contains("\n" + head + "\n"));
        }
    }

    /** The words stand after the first call's head and before those of the others. */
    private static void ahead(Check check, String source, String words, String before, String... calls) {
        int at = source.indexOf("// " + words + "\n");
        check.isTrue(before + " stands before " + words, place(source, before) < at);
        for (String call : calls) {
            check.isTrue(words + " stands before " + call, at >= 0 && at < place(source, call));
        }
    }

    private static int place(String source, String call) {
        return Math.max(source.indexOf("public int " + call + "("), source.indexOf("public long " + call + "("));
    }

    private static boolean isOfFace(String name) {
        return FACE.stream().anyMatch(method -> method.contains(" " + name + "("));
    }
}
