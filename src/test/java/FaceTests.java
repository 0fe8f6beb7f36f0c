import java.lang.reflect.Constructor;
import java.lang.reflect.Executable;
import java.lang.reflect.Field;
import java.lang.reflect.Method;
import java.lang.reflect.Modifier;
import java.nio.file.Files;
import java.nio.file.Path;
import java.util.ArrayList;
import java.util.Arrays;
import java.util.Collections;
import java.util.List;
import java.util.TreeSet;

/** The class has the document's face, with its names, and nothing else that can be seen from outside. */
public final class FaceTests {
    private static final Path SOURCE = Path.of("src/main/java/LearnedIndex.java");
    private static final Path DOCUMENT = Path.of("../shared/DOC.md");
    private static final int MEMBERS = 28;
    private static int wrong = 0;

    private static void fault(String what) {
        wrong++;
        System.out.println(what);
    }

    private static String signature(Executable e, String result) {
        StringBuilder text = new StringBuilder("public ").append(result).append(e.getName()).append('(');
        text.append(String.join(", ", Arrays.stream(e.getParameterTypes()).map(Class::getSimpleName).toList()));
        text.append(')');
        if (e.getExceptionTypes().length > 0) {
            text.append(" throws ").append(String.join(", ",
                Arrays.stream(e.getExceptionTypes()).map(Class::getSimpleName).toList()));
        }
        return text.toString();
    }

    /** The face as the document has it, a line each. */
    private static List<String> wantedLines() throws Exception {
        List<String> lines = new ArrayList<>();
        for (String line : Files.readAllLines(DOCUMENT)) {
            if (line.startsWith("    public ")) {
                lines.add(line.strip().replace(";", ""));
            }
        }
        return lines;
    }

    private static List<String> face() {
        List<String> face = new ArrayList<>();
        for (Constructor<?> c : LearnedIndex.class.getDeclaredConstructors()) {
            face.add(signature(c, ""));
        }
        for (Method m : LearnedIndex.class.getDeclaredMethods()) {
            if (!Modifier.isPrivate(m.getModifiers())) {
                face.add(signature(m, m.getReturnType().getSimpleName() + " "));
            }
        }
        Collections.sort(face);
        return face;
    }

    /** What the class has, without the names of the parameters, which a class does not keep. */
    private static void checkFace() throws Exception {
        List<String> wanted = new ArrayList<>();
        for (String line : wantedLines()) {
            wanted.add(line.replaceAll("(int|long|char|boolean) \\w+(?=[,)])", "$1"));
        }
        Collections.sort(wanted);
        if (wanted.size() != MEMBERS || !face().equals(wanted)) {
            fault("the face is " + face() + ", the document's is " + wanted);
        }
        if (LearnedIndex.class.getModifiers() != (Modifier.PUBLIC | Modifier.FINAL)) {
            fault("the class is not public and final alone");
        }
        for (Field f : LearnedIndex.class.getDeclaredFields()) {
            if (!Modifier.isPrivate(f.getModifiers())) {
                fault("the field " + f.getName() + " is not private");
            }
        }
    }

    /** What the file has, with the names of the parameters and in the document's order. */
    private static void checkLines() throws Exception {
        List<String> lines = new ArrayList<>();
        for (String line : Files.readAllLines(SOURCE)) {
            if (line.startsWith("    public ")) {
                lines.add(line.strip().replace(" {", ""));
            }
        }
        if (!lines.equals(wantedLines())) {
            fault("the file has " + lines + ", the document " + wantedLines());
        }
    }

    private static void checkNames() {
        TreeSet<String> publicNames = new TreeSet<>();
        for (Method m : LearnedIndex.class.getMethods()) {
            publicNames.add(m.getName());
        }
        List<Class<?>> classes = new ArrayList<>(List.of(LearnedIndex.class));
        classes.addAll(List.of(LearnedIndex.class.getDeclaredClasses()));
        for (Class<?> c : classes) {
            for (Method m : c.getDeclaredMethods()) {
                if (!Modifier.isPublic(m.getModifiers()) && publicNames.contains(m.getName())) {
                    fault(c.getName() + "." + m.getName() + " bears the name of a public method");
                }
            }
        }
    }

    public static void main(String[] args) throws Exception {
        checkFace();
        checkLines();
        checkNames();
        System.out.println(wrong == 0 ? "the face is as due" : wrong + " faults");
        System.exit(wrong == 0 ? 0 : 1);
    }
}
