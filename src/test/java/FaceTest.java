import java.io.IOException;
import java.lang.reflect.Constructor;
import java.lang.reflect.Field;
import java.lang.reflect.Method;
import java.lang.reflect.Modifier;
import java.nio.file.Files;
import java.nio.file.Path;
import java.util.ArrayList;
import java.util.List;
import java.util.Set;
import java.util.TreeSet;

/** The public face is that of the document, and the program has nothing that LANGUAGE.md names as ruled out. */
public final class FaceTest {
    private static final Checks c = new Checks();
    private static final Path DOC = Path.of("../shared/DOC.md");
    private static final Path PROGRAM = Path.of("src/main/java/MarshDrains.java");

    public static void main(String[] args) throws IOException {
        faceIsTheDocuments();
        nothingElseIsSeen();
        noPrivateMethodIsNamedLikeAPublicOne();
        wordsRuledOut();
        c.end();
    }

    /** The lines of the document's face, as reflection tells them: without the names of parameters. */
    private static Set<String> faceOfDocument() throws IOException {
        Set<String> face = new TreeSet<>();
        for (String line : Files.readAllLines(DOC)) {
            if (line.startsWith("    public ") && line.endsWith(";")) {
                String[] parts = line.strip().replace(";", "").split(" throws ");
                parts[0] = parts[0].replaceAll("(\\w+) \\w+(?=[,)])", "$1");
                face.add(String.join(" throws ", parts).replace(", ", ","));
            }
        }
        return face;
    }

    private static void faceIsTheDocuments() throws IOException {
        Set<String> face = new TreeSet<>();
        for (Method method : MarshDrains.class.getDeclaredMethods()) {
            if (Modifier.isPublic(method.getModifiers())) {
                face.add(described(method.toString()));
            }
        }
        for (Constructor<?> constructor : MarshDrains.class.getConstructors()) {
            face.add(described(constructor.toString()));
        }
        Set<String> due = faceOfDocument();
        c.due("methods of the document's face", due.size(), 37);
        c.due("the face", String.join("\n", face), String.join("\n", due));
    }

    private static String described(String reflected) {
        return reflected.replace("java.lang.", "").replace("MarshDrains.", "").replace(", ", ",");
    }

    private static void nothingElseIsSeen() {
        c.due("the class is public and final", MarshDrains.class.getModifiers(), Modifier.PUBLIC | Modifier.FINAL);
        for (Field field : MarshDrains.class.getDeclaredFields()) {
            c.due("private: " + field, Modifier.isPrivate(field.getModifiers()), true);
            if (Modifier.isStatic(field.getModifiers())) {
                c.due("final: " + field, Modifier.isFinal(field.getModifiers()), true);
            }
        }
        for (Method method : MarshDrains.class.getDeclaredMethods()) {
            int access = method.getModifiers();
            c.due("public or private: " + method, Modifier.isPublic(access) || Modifier.isPrivate(access), true);
        }
        for (Class<?> inside : MarshDrains.class.getDeclaredClasses()) {
            c.due("private and static: " + inside, inside.getModifiers(),
                Modifier.PRIVATE | Modifier.STATIC | Modifier.FINAL);
        }
    }

    private static void noPrivateMethodIsNamedLikeAPublicOne() {
        List<Method> own = new ArrayList<>(List.of(MarshDrains.class.getDeclaredMethods()));
        for (Class<?> inside : MarshDrains.class.getDeclaredClasses()) {
            own.addAll(List.of(inside.getDeclaredMethods()));
        }
        Set<String> seen = new TreeSet<>();
        for (Method method : MarshDrains.class.getMethods()) {
            seen.add(method.getName());
        }
        for (Method method : own) {
            boolean publicOne = Modifier.isPublic(method.getModifiers());
            c.due("a name of its own: " + method, publicOne || !seen.contains(method.getName()), true);
        }
    }

    private static void wordsRuledOut() throws IOException {
        String program = Files.readString(PROGRAM);
        String[] words = {"\nimport ", "\npackage ", "->", "::", " catch ", "finally", "synchronized", "assert ",
            "Exact(", "Math.random", "System.", "Thread", "Object ", "String.format", ".equals(", "static {"};
        for (String word : words) {
            c.due("without '" + word.strip() + "'", program.contains(word), false);
        }
        for (char sign : program.toCharArray()) {
            if (sign > 126) {
                c.due("a sign of the program", sign, 126);
            }
        }
    }
}
