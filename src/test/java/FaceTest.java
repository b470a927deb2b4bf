import java.lang.reflect.Constructor;
import java.lang.reflect.Field;
import java.lang.reflect.Member;
import java.lang.reflect.Method;
import java.lang.reflect.Modifier;
import java.util.Set;
import java.util.TreeSet;

/** The public face is the document's, and nothing else of the class can be seen from outside. */
public final class FaceTest {
    public static void main(String[] args) {
        Checks checks = new Checks();
        checks.due("the class", Modifier.toString(JumpOrder.class.getModifiers()), "public final");
        checks.due("the fields", visibleFields(), Set.of("public static final int JumpOrder.NONE"));
        checks.due("the constructors", visibleConstructors(), Set.of("public JumpOrder()"));
        checks.due("the methods", visibleMethods(), Set.of(
                "public int JumpOrder.set(int,int,long)",
                "public int JumpOrder.remove(int,int)",
                "public int JumpOrder.clear(int)",
                "public long JumpOrder.score(int,int)",
                "public int JumpOrder.rank(int,int)",
                "public int JumpOrder.at(int,int)",
                "public int JumpOrder.below(int,long,boolean)",
                "public int JumpOrder.size(int)",
                "public int JumpOrder.walk(int,int,int)"));
        checks.due("NONE", JumpOrder.NONE, -1);
        checkState(checks);
        checks.end();
    }

    /** Two objects must not share anything that can change. */
    private static void checkState(Checks checks) {
        for (Field field : JumpOrder.class.getDeclaredFields()) {
            if (Modifier.isStatic(field.getModifiers())) {
                checks.due(field + " final", Modifier.isFinal(field.getModifiers()), true);
            }
        }
        JumpOrder one = new JumpOrder();
        JumpOrder other = new JumpOrder();
        one.set(0, 1, 5L);
        checks.due("size(0) of another object", other.size(0), 0);
        checks.due("score(0, 1) of another object", other.score(0, 1), 0L);
    }

    private static Set<String> visibleFields() {
        Set<String> names = new TreeSet<>();
        for (Field field : JumpOrder.class.getDeclaredFields()) {
            addVisible(names, field);
        }
        return names;
    }

    private static Set<String> visibleConstructors() {
        Set<String> names = new TreeSet<>();
        for (Constructor<?> constructor : JumpOrder.class.getDeclaredConstructors()) {
            addVisible(names, constructor);
        }
        return names;
    }

    private static Set<String> visibleMethods() {
        Set<String> names = new TreeSet<>();
        for (Method method : JumpOrder.class.getDeclaredMethods()) {
            addVisible(names, method);
        }
        return names;
    }

    private static void addVisible(Set<String> names, Member member) {
        if (!Modifier.isPrivate(member.getModifiers())) {
            names.add(member.toString());
        }
    }
}
