import java.lang.reflect.Constructor;
import java.lang.reflect.Field;
import java.lang.reflect.Method;
import java.lang.reflect.Modifier;
import java.util.TreeSet;

/** The public face: these methods with these exceptions, and no other member that is not private. */
final class FaceTests {
    private static final String INDEX = " IndexOutOfBoundsException";
    private static final String ARGUMENT = " IllegalArgumentException";
    private static final String STATE = " IllegalStateException";
    private static final String[] FACE = {
        "int feed 5" + STATE, "int trim 1" + ARGUMENT, "int learn 1" + INDEX, "int figure 2" + INDEX,
        "int drift 2" + INDEX, "int come 4" + ARGUMENT + STATE, "int dance 2" + INDEX,
        "int pair 2" + INDEX + ARGUMENT + STATE, "int part 1" + INDEX + STATE, "int wind 2" + INDEX + ARGUMENT,
        "int dancer 2" + INDEX, "int at 2" + INDEX, "int addWinder 3" + ARGUMENT + STATE,
        "int call 2" + INDEX + STATE, "int winder 2" + INDEX, "int pass 1" + ARGUMENT, "int count 1" + INDEX,
        "int foresee 3" + INDEX + ARGUMENT, "int firstToStop 1" + ARGUMENT, "int meet 3" + INDEX + ARGUMENT,
        "double tension 0", "long digest 0"
    };

    private FaceTests() {
    }

    static void run() {
        Check.test("the public face", () -> {
            TreeSet<String> due = new TreeSet<>();
            for (String line : FACE) {
                due.add(line);
            }
            TreeSet<String> got = new TreeSet<>();
            for (Method method : WaltzHall.class.getDeclaredMethods()) {
                if (!Modifier.isPrivate(method.getModifiers()) && !method.isSynthetic()) {
                    Check.isTrue(method + " is public", Modifier.isPublic(method.getModifiers()));
                    got.add(lineOf(method));
                }
            }
            Check.isTrue("the face is " + due + ", not " + got, due.equals(got));
        });
        Check.test("a final class, one constructor, private fields", () -> {
            Check.isTrue("final", Modifier.isFinal(WaltzHall.class.getModifiers()));
            Constructor<?>[] constructors = WaltzHall.class.getDeclaredConstructors();
            Check.same("constructors", constructors.length, 1);
            Check.same("its parameters", constructors[0].getParameterCount(), 0);
            for (Field field : WaltzHall.class.getDeclaredFields()) {
                Check.isTrue(field + " is private", Modifier.isPrivate(field.getModifiers()));
            }
        });
    }

    private static String lineOf(Method method) {
        StringBuilder line = new StringBuilder();
        line.append(method.getReturnType().getName()).append(' ').append(method.getName());
        line.append(' ').append(method.getParameterCount());
        for (Class<?> parameter : method.getParameterTypes()) {
            Check.isTrue(method + " takes numbers", parameter == int.class);
        }
        for (Class<?> thrown : method.getExceptionTypes()) {
            line.append(' ').append(thrown.getSimpleName());
        }
        return line.toString();
    }
}
