import java.lang.reflect.InvocationTargetException;
import java.lang.reflect.Method;
import java.lang.reflect.Modifier;
import java.util.Arrays;
import java.util.Comparator;

/** Any call, with any arguments, in any state: none throws. */
public final class NeverThrowsTest {
    private static final Due DUE = new Due("NeverThrowsTest");
    private static final int[] EDGES = {0, 1, 2, 3, 4, 5, 6, 7, 8, 9, 10, 11, 12, 13, 15, 16, 17, 18, 20, 21, 32, 40, 41, 60,
        61, 99, 100, 101, 119, 120, 121, 200, 201, 255, 256, 512, 999, 1000, 2048, 4095, 4096, 9999, 10000, 99999, -1, -2,
        -1000001, -1000007, 1 << 30, 1 << 31, Integer.MAX_VALUE, Integer.MAX_VALUE - 1, Integer.MIN_VALUE + 1};
    private static long draws = 3;

    private static int pick(int n) {
        draws = draws * 6364136223846793005L + 1442695040888963407L;
        return (int) ((draws >>> 33) % n);
    }

    private static Method[] face() {
        return Arrays.stream(BustRest.class.getDeclaredMethods()).filter(m -> Modifier.isPublic(m.getModifiers()))
            .sorted(Comparator.comparing(Method::getName)).toArray(Method[]::new);
    }

    private static void call(BustRest x, Method m) throws IllegalAccessException {
        Object[] arguments = new Object[m.getParameterCount()];
        for (int i = 0; i < arguments.length; i++) {
            arguments[i] = EDGES[pick(pick(3) == 0 ? EDGES.length : 8)];
        }
        int threw = 0;
        try {
            m.invoke(x, arguments);
        } catch (InvocationTargetException e) {
            threw = 1;
        }
        DUE.due(m.getName() + Arrays.toString(arguments) + " throws", threw, 0);
    }

    public static void main(String[] args) throws IllegalAccessException {
        Method[] face = face();
        for (int object = 0; object < 300; object++) {
            BustRest x = new BustRest();
            Due.read(x, "cicero 5 has 4095;bust 3 has 4095 at 9;poet 5;torso 7");
            for (int i = 0; i < 480; i++) {
                call(x, face[pick(face.length)]);
            }
        }
        DUE.end();
    }
}
