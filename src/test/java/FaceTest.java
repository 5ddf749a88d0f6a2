import java.lang.reflect.Constructor;
import java.lang.reflect.Field;
import java.lang.reflect.Method;
import java.lang.reflect.Modifier;
import java.util.Arrays;
import java.util.TreeSet;

/** The class has the document's public face, and no other member that can be seen. */
public final class FaceTest {
    public static void main(String[] args) {
        Probe probe = new Probe();
        TreeSet<String> seen = new TreeSet<>();
        for (Method method : DeckFront.class.getDeclaredMethods()) {
            if (!Modifier.isPrivate(method.getModifiers())) {
                seen.add(method.toString().replace("DeckFront.", ""));
            }
        }
        for (Field field : DeckFront.class.getDeclaredFields()) {
            if (!Modifier.isPrivate(field.getModifiers())) {
                seen.add(field.toString().replace("DeckFront.", ""));
            }
        }
        for (Constructor<?> constructor : DeckFront.class.getDeclaredConstructors()) {
            seen.add(constructor.toString());
        }
        TreeSet<String> due = new TreeSet<>(Arrays.asList(
                "public static final int NONE",
                "public DeckFront()",
                "public boolean write(long)",
                "public int card() throws java.lang.IllegalArgumentException,java.lang.IllegalStateException",
                "public void clear()",
                "public int statements()",
                "public int label(int)",
                "public int what(int)",
                "public int shown(int,int)",
                "public int kind(long)",
                "public int type(long)",
                "public int fault()",
                "public int faultAt()"));
        probe.due("the face", due.toString(), seen.toString());
        probe.due("the class", "public final", Modifier.toString(DeckFront.class.getModifiers()));
        for (Class<?> inside : DeckFront.class.getDeclaredClasses()) {
            int modifiers = inside.getModifiers();
            probe.due(inside + " is static", true, Modifier.isStatic(modifiers));
            probe.due(inside + " can be seen", false, Modifier.isPublic(modifiers) || Modifier.isProtected(modifiers));
        }
        probe.end();
    }
}
