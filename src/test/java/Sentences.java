import java.lang.reflect.Method;
import java.util.Arrays;
import java.util.Comparator;

/** Runs every method of a test that bears words of the document, so that none can be forgotten. */
final class Sentences {
    private Sentences() {
    }

    static void run(Class<?> test) throws ReflectiveOperationException {
        Method[] methods = test.getDeclaredMethods();
        Arrays.sort(methods, Comparator.comparing(Method::getName));
        int ran = 0;
        for (Method method : methods) {
            Says words = method.getAnnotation(Says.class);
            if (words != null) {
                Desk.sentence(method.getName() + ", \"" + words.value() + "\"");
                method.invoke(null);
                ran++;
            }
        }
        Desk.sentence("");
        System.out.println(ran + " sentences");
        Desk.end();
    }
}
