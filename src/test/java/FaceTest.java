import java.lang.reflect.Constructor;
import java.lang.reflect.Field;
import java.lang.reflect.Method;
import java.lang.reflect.Modifier;
import java.util.Set;
import java.util.TreeSet;

/** The class shows the document's face and nothing else. */
public final class FaceTest {
    private static final Set<String> FACE = new TreeSet<>(Set.of(
            "NONE", "StackForth/0", "write/2", "interpret/0", "compiling/0", "depth/0", "top/1",
            "cell/1", "said/0", "saying/1", "definition/2", "count/1"));

    public static void main(String[] args) {
        Set<String> shown = new TreeSet<>();
        for (Field field : StackForth.class.getDeclaredFields()) {
            if (!Modifier.isPrivate(field.getModifiers())) {
                shown.add(field.getName());
            }
        }
        for (Constructor<?> made : StackForth.class.getDeclaredConstructors()) {
            if (!Modifier.isPrivate(made.getModifiers())) {
                shown.add(made.getName() + "/" + made.getParameterCount());
            }
        }
        for (Method method : StackForth.class.getDeclaredMethods()) {
            if (!Modifier.isPrivate(method.getModifiers())) {
                shown.add(method.getName() + "/" + method.getParameterCount());
            }
        }
        Check.holds("the face " + shown, shown.equals(FACE));
        Check.holds("final", Modifier.isFinal(StackForth.class.getModifiers()));
        Check.same("NONE", StackForth.NONE, -1);
        Check.end("FaceTest");
    }
}
