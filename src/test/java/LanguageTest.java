import java.io.IOException;
import java.lang.reflect.Constructor;
import java.lang.reflect.Field;
import java.lang.reflect.Method;
import java.lang.reflect.Modifier;
import java.nio.file.Files;
import java.nio.file.Path;
import java.util.ArrayList;
import java.util.Arrays;
import java.util.List;
import java.util.Set;
import java.util.TreeSet;
import java.util.regex.Matcher;
import java.util.regex.Pattern;

/** Those rules of LANGUAGE.md that the program's text and its compiled classes can show. */
public final class LanguageTest {
    private static final Path PROGRAM = Path.of("src/main/java/EpochSifter.java");
    private static final Set<String> LIBRARY = Set.of("System.arraycopy", "Integer.bitCount");
    private static final String[] LEFT_OUT = {"package", "import", "try", "catch", "throw", "finally",
        "synchronized", "assert", "float", "Math", "String", "List", "instanceof", "protected"};

    public static void main(String[] args) throws IOException {
        List<String> lines = codeOf(Files.readAllLines(PROGRAM));
        wordsThatAreLeftOut(lines);
        libraryCalls(lines);
        objectsAreMadeInConstructors(lines);
        methodsAreShort(lines);
        List<Class<?>> classes = new ArrayList<>(List.of(EpochSifter.class));
        classes.addAll(Arrays.asList(EpochSifter.class.getDeclaredClasses()));
        Due.same("rule 11, at most twelve classes", classes.size() <= 12 ? 1 : 0, 1);
        for (Class<?> one : classes) {
            nestedClass(one);
            fields(one);
            methods(one);
        }
        Due.end();
    }

    /** The lines without their comments. */
    private static List<String> codeOf(List<String> lines) {
        List<String> code = new ArrayList<>();
        for (String line : lines) {
            String text = line.strip();
            boolean comment = text.startsWith("/**") || text.startsWith("*") || text.startsWith("//");
            code.add(comment ? "" : line);
        }
        return code;
    }

    private static void wordsThatAreLeftOut(List<String> lines) {
        for (String word : LEFT_OUT) {
            Pattern whole = Pattern.compile("\\b" + word + "\\b");
            Due.same("lines with " + word, lines.stream().filter(whole.asPredicate()).count(), 0);
        }
        Due.same("lambdas", lines.stream().filter(line -> line.contains("->")).count(), 0);
        Due.same("method references", lines.stream().filter(line -> line.contains("::")).count(), 0);
    }

    private static void libraryCalls(List<String> lines) {
        Pattern call = Pattern.compile("\\b([A-Z]\\w*\\.[a-z]\\w*)\\(");
        for (String line : lines) {
            Matcher found = call.matcher(line);
            while (found.find()) {
                String name = found.group(1);
                Due.same("rule 4, " + name, LIBRARY.contains(name) ? 1 : 0, 1);
            }
        }
    }

    /** The room of a run is counted: no call but the constructor's makes an object or a row. */
    private static void objectsAreMadeInConstructors(List<String> lines) {
        Pattern constructor = Pattern.compile("^ +(public )?[A-Z]\\w*\\(\\) \\{$");
        boolean inside = false;
        for (String line : lines) {
            inside = inside ? !line.strip().equals("}") : constructor.matcher(line).matches();
            if (line.contains("new ")) {
                Due.same("in a constructor: " + line.strip(), inside ? 1 : 0, 1);
            }
        }
    }

    private static void methodsAreShort(List<String> lines) {
        Pattern head = Pattern.compile("^( +)[\\w\\[\\] ]+\\([\\w\\[\\], ]*\\) \\{$");
        for (int i = 0; i < lines.size(); i++) {
            Matcher found = head.matcher(lines.get(i));
            if (found.matches()) {
                int end = lines.subList(i, lines.size()).indexOf(found.group(1) + "}");
                Due.same("rule 11, short: " + lines.get(i).strip(), end > 0 && end <= 60 ? 1 : 0, 1);
            }
        }
    }

    private static void nestedClass(Class<?> one) {
        if (one != EpochSifter.class) {
            int modifiers = one.getModifiers();
            Due.same("rule 1, static " + one.getName(), Modifier.isStatic(modifiers) ? 1 : 0, 1);
            Due.same("rule 1, private " + one.getName(), Modifier.isPrivate(modifiers) ? 1 : 0, 1);
        }
        Due.same("no class inside a nested one", one.getDeclaredClasses().length == 0
                || one == EpochSifter.class ? 1 : 0, 1);
        for (Constructor<?> made : one.getDeclaredConstructors()) {
            Due.same("rule 12, nothing is handed out by " + one.getName(), made.getParameterCount(), 0);
        }
    }

    private static void fields(Class<?> one) {
        int ofObjects = 0;
        for (Field field : one.getDeclaredFields()) {
            if (!Modifier.isStatic(field.getModifiers())) {
                ofObjects++;
                continue;
            }
            String name = one.getName() + "." + field.getName();
            Due.same("rule 5, final " + name, Modifier.isFinal(field.getModifiers()) ? 1 : 0, 1);
            Due.same("rule 5, type of " + name, field.getType().getName(), "int");
        }
        Due.same("rule 11, at most twenty fields", ofObjects <= 20 ? 1 : 0, 1);
    }

    private static void methods(Class<?> one) {
        Set<String> face = new TreeSet<>();
        for (Method method : EpochSifter.class.getMethods()) {
            face.add(method.getName());
        }
        for (Method method : one.getDeclaredMethods()) {
            String name = one.getName() + "." + method.getName();
            Due.same("rule 11, parameters of " + name, method.getParameterCount() <= 7 ? 1 : 0, 1);
            boolean hidden = !Modifier.isPublic(method.getModifiers());
            Due.same("rule 1, name of " + name, hidden && face.contains(method.getName()) ? 1 : 0, 0);
        }
    }
}
