import java.lang.reflect.Constructor;
import java.lang.reflect.Field;
import java.lang.reflect.Method;
import java.lang.reflect.Modifier;
import java.util.Set;
import java.util.TreeSet;

/** The public face: all of the document's, and nothing else that can be seen from outside. */
public final class FaceTest {
    private static final String[] FACE = {
        "public static final int LineFlow.NONE",
        "public LineFlow()",
        "public int LineFlow.feed(int,int,int,int,int)",
        "public int LineFlow.end(int)",
        "public void LineFlow.clear()",
        "public int LineFlow.node(int,int)",
        "public int LineFlow.text(int)",
        "public int LineFlow.set(int,int,int)",
        "public int LineFlow.lay(int)",
        "public int LineFlow.box(int,int)",
        "public int LineFlow.words()",
        "public int LineFlow.word(int,int)",
        "public int LineFlow.line(int)",
        "public int LineFlow.margin(int,boolean)",
    };

    private static Set<String> seen() {
        Set<String> seen = new TreeSet<>();
        for (Field field : LineFlow.class.getDeclaredFields()) {
            addSeen(seen, field.getModifiers(), field.toGenericString());
        }
        for (Constructor<?> constructor : LineFlow.class.getDeclaredConstructors()) {
            addSeen(seen, constructor.getModifiers(), constructor.toGenericString());
        }
        for (Method method : LineFlow.class.getDeclaredMethods()) {
            addSeen(seen, method.getModifiers(), method.toGenericString());
        }
        return seen;
    }

    private static void addSeen(Set<String> seen, int modifiers, String member) {
        if (!Modifier.isPrivate(modifiers)) {
            seen.add(member);
        }
    }

    public static void main(String[] args) {
        Set<String> seen = seen();
        for (String member : FACE) {
            Check.due(member, seen.remove(member) ? 1 : 0, 1);
        }
        for (String member : seen) {
            Check.due("beyond the face: " + member, 1, 0);
        }
        int modifiers = LineFlow.class.getModifiers();
        Check.due("the class is public", Modifier.isPublic(modifiers) ? 1 : 0, 1);
        Check.due("the class is final", Modifier.isFinal(modifiers) ? 1 : 0, 1);
        Check.due("the class extends nothing", LineFlow.class.getSuperclass() == Object.class ? 1 : 0, 1);
        Check.due("the class implements nothing", LineFlow.class.getInterfaces().length, 0);
        Check.finish();
    }
}
