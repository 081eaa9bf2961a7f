import java.lang.reflect.Field;
import java.lang.reflect.Method;
import java.lang.reflect.Modifier;
import java.util.Arrays;
import java.util.TreeSet;

/** The public face: what the document gives, and nothing else that can be seen from outside. */
public final class FaceTest {
    private static final String[] FACE = {
        "int put(int, int)", "int count(int)", "int epoch(int)", "int cell(int)",
        "double range(int)", "int strength(int)", "double mean()", "int fix()",
        "double place(int)", "int raw(int)", "int check(int, int, int)", "int flush()",
    };

    public static void main(String[] args) {
        Class<?> sifter = EpochSifter.class;
        TreeSet<String> seen = new TreeSet<>();
        for (Method method : sifter.getDeclaredMethods()) {
            if (Modifier.isPublic(method.getModifiers())) {
                Due.same("static " + method.getName(), Modifier.isStatic(method.getModifiers()) ? 1 : 0, 0);
                seen.add(textOf(method));
            } else {
                Due.same("private " + method.getName(), Modifier.isPrivate(method.getModifiers()) ? 1 : 0, 1);
            }
        }
        Due.same("methods", seen.toString(), new TreeSet<>(Arrays.asList(FACE)).toString());
        for (Field field : sifter.getDeclaredFields()) {
            Due.same("private " + field.getName(), Modifier.isPrivate(field.getModifiers()) ? 1 : 0, 1);
        }
        Due.same("final", Modifier.isFinal(sifter.getModifiers()) ? 1 : 0, 1);
        Due.same("constructors", sifter.getDeclaredConstructors().length, 1);
        Due.same("public constructors", sifter.getConstructors().length, 1);
        Due.same("without parameters", sifter.getConstructors()[0].getParameterCount(), 0);
        Due.end();
    }

    private static String textOf(Method method) {
        StringBuilder text = new StringBuilder();
        text.append(method.getReturnType().getName()).append(' ').append(method.getName()).append('(');
        String gap = "";
        for (Class<?> type : method.getParameterTypes()) {
            text.append(gap).append(type.getName());
            gap = ", ";
        }
        return text.append(')').toString();
    }
}
