import java.lang.reflect.Constructor;
import java.lang.reflect.Field;
import java.lang.reflect.Method;
import java.lang.reflect.Modifier;
import java.util.Arrays;
import java.util.Set;
import java.util.TreeSet;

/** The public face is the document's, and nothing else is visible. */
public final class FaceTest {
    private static final String[] FACE = {
        "int file(long, int)", "int flip(int, int)", "int clear()", "int load()", "int place()",
        "int fact(int)", "int weight(int, int, int)", "int text(long, int)", "int encode()",
        "int token(int)", "int letter(int, int)", "int step(int)", "int logit(int)",
        "void seed(long)", "int draw(int, int, int)", "int say(int)", "int said(int)", "int reset()",
    };

    public static void main(String[] args) {
        Check.holds("public and final", Modifier.isPublic(TextEngine.class.getModifiers())
            && Modifier.isFinal(TextEngine.class.getModifiers()));
        methods();
        fields();
        Constructor<?>[] made = TextEngine.class.getDeclaredConstructors();
        Check.due("constructors", made.length, 1);
        Check.holds("the constructor is public and takes nothing",
            Modifier.isPublic(made[0].getModifiers()) && made[0].getParameterCount() == 0);
        Check.due("REFUSED", TextEngine.REFUSED, -1);
        Check.due("FULL", TextEngine.FULL, -2);
        Check.due("NONE", TextEngine.NONE, -3);
        Check.end();
    }

    private static void methods() {
        Set<String> due = new TreeSet<>(Arrays.asList(FACE));
        Set<String> seen = new TreeSet<>();
        Set<String> names = new TreeSet<>();
        for (Method m : TextEngine.class.getDeclaredMethods()) {
            if (!Modifier.isPrivate(m.getModifiers())) {
                seen.add(signature(m));
                names.add(m.getName());
            }
        }
        Check.holds("the methods are " + seen, seen.equals(due));
        for (Method m : TextEngine.class.getDeclaredMethods()) {
            Check.holds("no private method named " + m.getName(),
                !Modifier.isPrivate(m.getModifiers()) || !names.contains(m.getName()));
        }
    }

    private static String signature(Method m) {
        StringBuilder s = new StringBuilder();
        s.append(m.getReturnType().getSimpleName()).append(' ').append(m.getName()).append('(');
        for (Class<?> type : m.getParameterTypes()) {
            s.append(s.charAt(s.length() - 1) == '(' ? "" : ", ").append(type.getSimpleName());
        }
        return s.append(')').toString();
    }

    private static void fields() {
        Set<String> seen = new TreeSet<>();
        for (Field f : TextEngine.class.getDeclaredFields()) {
            if (!Modifier.isPrivate(f.getModifiers())) {
                seen.add(f.getName());
            }
        }
        Check.holds("the visible fields are " + seen,
            seen.equals(new TreeSet<>(Arrays.asList("FULL", "NONE", "REFUSED"))));
    }
}
