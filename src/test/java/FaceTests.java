import java.lang.reflect.Constructor;
import java.lang.reflect.Executable;
import java.lang.reflect.Field;
import java.lang.reflect.Method;
import java.lang.reflect.Modifier;
import java.nio.file.Files;
import java.nio.file.Path;
import java.util.ArrayList;
import java.util.Arrays;
import java.util.Collections;
import java.util.List;
import java.util.TreeSet;

/** The class has the document's face and nothing else, and its file keeps to what a scan can see of LANGUAGE.md. */
public final class FaceTests {
    private static final Path SOURCE = Path.of("src/main/java/LearnedIndex.java");
    private static final Path DOCUMENT = Path.of("../shared/DOC.md");
    private static final int MOST_LINES_OF_A_METHOD = 60;
    private static int wrong = 0;

    private static void fault(String what) {
        wrong++;
        System.out.println(what);
    }

    private static String signature(Executable e, String result) {
        StringBuilder text = new StringBuilder("public ").append(result).append(e.getName()).append('(');
        text.append(String.join(", ", Arrays.stream(e.getParameterTypes()).map(Class::getSimpleName).toList()));
        text.append(')');
        if (e.getExceptionTypes().length > 0) {
            text.append(" throws ").append(String.join(", ",
                Arrays.stream(e.getExceptionTypes()).map(Class::getSimpleName).toList()));
        }
        return text.toString();
    }

    /** The face as the document has it, without the names of the parameters. */
    private static List<String> wantedFace() throws Exception {
        List<String> face = new ArrayList<>();
        for (String line : Files.readAllLines(DOCUMENT)) {
            if (line.startsWith("    public ")) {
                face.add(line.strip().replace(";", "").replaceAll("(int|long|char|boolean) \\w+(?=[,)])", "$1"));
            }
        }
        Collections.sort(face);
        return face;
    }

    private static List<String> face() {
        List<String> face = new ArrayList<>();
        for (Constructor<?> c : LearnedIndex.class.getDeclaredConstructors()) {
            face.add(signature(c, ""));
        }
        for (Method m : LearnedIndex.class.getDeclaredMethods()) {
            if (!Modifier.isPrivate(m.getModifiers())) {
                face.add(signature(m, m.getReturnType().getSimpleName() + " "));
            }
        }
        Collections.sort(face);
        return face;
    }

    private static void checkFace() throws Exception {
        if (!face().equals(wantedFace())) {
            fault("the face is " + face() + ", the document's is " + wantedFace());
        }
        if (!Modifier.isFinal(LearnedIndex.class.getModifiers())) {
            fault("the class is not final");
        }
        for (Field f : LearnedIndex.class.getDeclaredFields()) {
            if (!Modifier.isPrivate(f.getModifiers())) {
                fault("the field " + f.getName() + " is not private");
            }
        }
    }

    private static void checkInside() {
        TreeSet<String> publicNames = new TreeSet<>();
        for (Method m : LearnedIndex.class.getMethods()) {
            publicNames.add(m.getName());
        }
        List<Class<?>> classes = new ArrayList<>(List.of(LearnedIndex.class));
        classes.addAll(List.of(LearnedIndex.class.getDeclaredClasses()));
        for (Class<?> c : classes) {
            int fields = 0;
            for (Field f : c.getDeclaredFields()) {
                fields += Modifier.isStatic(f.getModifiers()) ? 0 : 1;
                if (Modifier.isStatic(f.getModifiers()) && !Modifier.isFinal(f.getModifiers())) {
                    fault("the static field " + f.getName() + " is not final");
                }
            }
            if (fields > 20) {
                fault(c.getName() + " has " + fields + " fields");
            }
            for (Method m : c.getDeclaredMethods()) {
                if (!Modifier.isPublic(m.getModifiers()) && publicNames.contains(m.getName())) {
                    fault(c.getName() + "." + m.getName() + " bears the name of a public method");
                }
                if (m.getParameterCount() > 7) {
                    fault(m.getName() + " has more than seven parameters");
                }
            }
        }
        if (classes.size() > 12) {
            fault("the file has " + classes.size() + " classes");
        }
    }

    private static void checkWords() throws Exception {
        String text = Files.readString(SOURCE);
        for (char letter : text.toCharArray()) {
            if (letter > 126 || letter == '\t') {
                fault("the file holds the sign " + (int) letter);
            }
        }
        String code = text.replaceAll("(?s)/\\*.*?\\*/", "").replaceAll("//[^\n]*", "");
        String[] forbidden = {"->", "::", "\\bcatch\\b", "\\bfinally\\b", "\\bsynchronized\\b", "\\bassert\\b",
            "\\bpackage\\b", "\\bimport java\\.(?!util\\.NoSuchElementException;)", "Exact\\b", "\\bSystem\\b",
            "\\bRandom\\b", "\\bstatic \\{", "\"\\s*\\+", "\\+\\s*\""};
        for (String pattern : forbidden) {
            if (java.util.regex.Pattern.compile(pattern).matcher(code).find()) {
                fault("the file holds " + pattern);
            }
        }
        // The one place that reads a row and the one that writes it look at the index first.
        String rows = code.replaceAll("\\? row\\[i\\] : 0;", "").replaceAll("\\brow\\[i\\] = value;", "")
            .replaceAll("new int\\[[A-Z_]+\\]", "").replace("int[]", "");
        if (rows.contains("[")) {
            fault("a row is used without a look at the index");
        }
    }

    private static void checkLengths() throws Exception {
        int begin = 0;
        int number = 0;
        for (String line : Files.readAllLines(SOURCE)) {
            number++;
            boolean isOuter = line.matches(" {4}\\S.*\\) (throws .*)?\\{");
            boolean isInner = line.matches(" {8}\\S.*\\) \\{") && !line.matches(" {8}(if|for|while|switch) .*");
            if (isOuter || isInner) {
                begin = number;
            }
            if (line.matches(" {4}( {4})?\\}") && number - begin > MOST_LINES_OF_A_METHOD && begin > 0) {
                fault("a method ends at line " + number + " that begins at line " + begin);
            }
            if (line.matches(" {4}( {4})?\\}")) {
                begin = 0;
            }
        }
    }

    public static void main(String[] args) throws Exception {
        checkFace();
        checkInside();
        checkWords();
        checkLengths();
        System.out.println(wrong == 0 ? "the face is as due" : wrong + " faults");
        System.exit(wrong == 0 ? 0 : 1);
    }
}
