import java.lang.reflect.Constructor;
import java.lang.reflect.Field;
import java.lang.reflect.Method;
import java.lang.reflect.Modifier;
import java.util.TreeSet;

/** The public face, and nothing beside it. */
public final class FaceTest {
    private static final String[] FACE = {
        "boolean keep()", "boolean set(int,long)", "boolean type(int,char)", "char output(int)",
        "int carry()", "int clear(int)", "int compare()", "int compile()", "int count(int)",
        "int grow(long,int)", "int parse()", "int print()", "int sample(int)",
        "long node(int,int)", "long rule(int,int)",
    };

    public static void main(String[] args) {
        Class<?> type = TwoWayGrammar.class;
        Desk.due("public and final", type.getModifiers(), Modifier.PUBLIC | Modifier.FINAL);
        TreeSet<String> found = new TreeSet<>();
        TreeSet<String> names = new TreeSet<>();
        for (Method m : type.getDeclaredMethods()) {
            if (Modifier.isPublic(m.getModifiers())) {
                found.add(told(m));
                names.add(m.getName());
            }
        }
        for (Method m : type.getDeclaredMethods()) {
            boolean hidden = Modifier.isPrivate(m.getModifiers()) && !names.contains(m.getName());
            Desk.due("private or of the face: " + m, hidden || found.contains(told(m)), true);
        }
        Desk.due("the face", found, new TreeSet<>(java.util.List.of(FACE)));
        for (Field f : type.getDeclaredFields()) {
            Desk.due("private: " + f, Modifier.isPrivate(f.getModifiers()), true);
            boolean state = Modifier.isStatic(f.getModifiers()) && !Modifier.isFinal(f.getModifiers());
            Desk.due("static state: " + f, state, false);
        }
        for (Constructor<?> c : type.getDeclaredConstructors()) {
            Desk.due("the constructor", c, "public TwoWayGrammar()");
        }
        for (Class<?> inside : type.getDeclaredClasses()) {
            Desk.due("static: " + inside, Modifier.isStatic(inside.getModifiers()), true);
            Desk.due("public: " + inside, Modifier.isPublic(inside.getModifiers()), false);
        }
        Desk.end();
    }

    private static String told(Method m) {
        StringBuilder all = new StringBuilder(m.getReturnType() + " " + m.getName() + "(");
        for (Class<?> p : m.getParameterTypes()) {
            all.append(all.charAt(all.length() - 1) == '(' ? "" : ",").append(p);
        }
        return all.append(")").toString();
    }
}
