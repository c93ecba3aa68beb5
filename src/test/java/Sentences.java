import java.lang.reflect.InvocationTargetException;
import java.lang.reflect.Method;
import java.util.ArrayList;
import java.util.Comparator;
import java.util.List;

/** Runs the tests of a class that bear a sentence, and prints the sentences that are broken. */
final class Sentences {
    private Sentences() {
    }

    static List<Method> testsOf(Class<?> tests) {
        List<Method> found = new ArrayList<>();
        for (Method method : tests.getDeclaredMethods()) {
            if (method.isAnnotationPresent(Sentence.class)) {
                found.add(method);
            }
        }
        found.sort(Comparator.comparing(Method::getName));
        return found;
    }

    static void testAllOf(Class<?> tests) {
        List<Method> methods = testsOf(tests);
        int broken = 0;
        for (Method method : methods) {
            Check check = new Check();
            run(method, check);
            if (!check.isClean()) {
                Sentence sentence = method.getAnnotation(Sentence.class);
                System.out.println("BROKEN: " + method.getName() + " (" + sentence.of() + ": " + sentence.says() + ")");
                broken++;
            }
        }
        System.out.println(broken + " of " + methods.size() + " sentences are broken");
        if (broken != 0 || methods.isEmpty()) {
            System.exit(1);
        }
    }

    private static void run(Method method, Check check) {
        try {
            method.invoke(null, check);
        } catch (InvocationTargetException e) {
            check.fault(method.getName() + " was ended by " + e.getCause());
        } catch (IllegalAccessException e) {
            check.fault(method.getName() + " can't be run: " + e);
        }
    }
}
