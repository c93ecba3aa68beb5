import java.lang.reflect.Constructor;
import java.lang.reflect.Field;
import java.lang.reflect.Method;
import java.lang.reflect.Modifier;
import java.util.Set;
import java.util.TreeSet;

/** The public face: each member as it stands in the document, and no other. */
public final class FaceTest {
    private static final String BOUNDS = " IndexOutOfBoundsException";
    private static final String ARGUMENT = " IllegalArgumentException";
    private static final String STATE = " IllegalStateException";

    private static final String[] METHODS = {
        "begin/1" + BOUNDS + STATE,
        "request/3" + BOUNDS + ARGUMENT + STATE,
        "work/2" + BOUNDS + ARGUMENT + STATE,
        "withdraw/1" + BOUNDS + STATE,
        "commit/1" + BOUNDS + STATE,
        "rollBack/1" + BOUNDS + STATE,
        "appendText/1" + ARGUMENT + STATE,
        "clearText/0",
        "errorPosition/0",
        "runText/0" + STATE,
        "undo/0" + STATE,
        "state/1" + BOUNDS,
        "workOf/1" + BOUNDS,
        "abortsOf/1" + BOUNDS,
        "birthOf/1" + BOUNDS,
        "held/2" + BOUNDS,
        "awaited/1" + BOUNDS,
        "waitsFor/1" + BOUNDS,
        "blockers/1" + BOUNDS,
        "holders/1" + BOUNDS,
        "queueLength/1" + BOUNDS,
        "queued/2" + BOUNDS,
        "ifRequested/3" + BOUNDS + ARGUMENT,
        "victimsOf/3" + BOUNDS + ARGUMENT,
        "brokenRings/0",
        "lostWork/0",
        "locksHeld/0",
        "savedStates/0",
        "textLength/0",
    };

    public static void main(String[] args) throws IllegalAccessException {
        Check check = new Check();
        check.due("the class's modifiers", Modifier.PUBLIC | Modifier.FINAL, LockManager.class.getModifiers());
        check.due("the package", "", LockManager.class.getPackageName());
        check.due("the methods", new TreeSet<>(Set.of(METHODS)).toString(), methods().toString());
        check.due("the constants", "[ABORTED=3, ACTIVE=1, EXCLUSIVE=2, GRANTED=1, IDLE=0, NONE=-1, QUEUED=2, "
                + "SHARED=1, WAITING=2]", constants().toString());
        Constructor<?>[] constructors = LockManager.class.getDeclaredConstructors();
        check.due("the number of constructors", 1, constructors.length);
        check.due("its parameters", 0, constructors[0].getParameterCount());
        check.due("its modifiers", Modifier.PUBLIC, constructors[0].getModifiers());
        check.end();
    }

    private static Set<String> methods() {
        Set<String> found = new TreeSet<>();
        for (Method method : LockManager.class.getDeclaredMethods()) {
            if (Modifier.isPrivate(method.getModifiers()) || method.isSynthetic()) {
                continue;
            }
            StringBuilder line = new StringBuilder(method.getName());
            line.append('/').append(method.getParameterCount());
            for (Class<?> thrown : method.getExceptionTypes()) {
                line.append(' ').append(thrown.getSimpleName());
            }
            boolean plain = method.getModifiers() == Modifier.PUBLIC && method.getReturnType() == int.class;
            for (Class<?> parameter : method.getParameterTypes()) {
                plain &= parameter == int.class;
            }
            found.add(plain ? line.toString() : line + " is not public int of ints");
        }
        return found;
    }

    private static Set<String> constants() throws IllegalAccessException {
        Set<String> found = new TreeSet<>();
        int face = Modifier.PUBLIC | Modifier.STATIC | Modifier.FINAL;
        for (Field field : LockManager.class.getDeclaredFields()) {
            if (Modifier.isPrivate(field.getModifiers()) || field.isSynthetic()) {
                continue;
            }
            boolean plain = field.getModifiers() == face && field.getType() == int.class;
            found.add(plain ? field.getName() + "=" + field.getInt(null) : field.getName() + " is not a constant");
        }
        return found;
    }
}
