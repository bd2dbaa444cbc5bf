import java.lang.reflect.InvocationTargetException;
import java.lang.reflect.Method;
import java.lang.reflect.Modifier;
import java.util.Arrays;
import java.util.Comparator;
import java.util.Random;

/** Rules 7 and 13: no call throws, whatever its arguments; the same calls on another object answer the same. */
public final class WildTest {
    private static final Check CHECK = new Check("WildTest");
    private static final int[] EDGES = {
        Integer.MIN_VALUE, Integer.MAX_VALUE, -10, -9, -1, 0, 1, 2, 3, 4, 5, 6, 7, 8, 9, 10, 11, 12, 13, 14, 15, 16, 39, 40,
        41, 79, 80, 81, 99, 100, 118, 119, 120, 121, 2147483646};

    public static void main(String[] args) {
        Method[] face = Arrays.stream(TwoFliers.class.getDeclaredMethods())
            .filter(m -> Modifier.isPublic(m.getModifiers()))
            .sorted(Comparator.comparing(Method::getName)).toArray(Method[]::new);
        for (int seed = 0; seed < 300; seed++) {
            run(face, new Random(seed), seed);
        }
        CHECK.end();
    }

    /** All rows and texts as long as can be, twelve signs, six hours. */
    private static TwoFliers full(int seed) {
        TwoFliers x = new TwoFliers();
        Make.flight(x, seed % 120, 0, 1, 2, 3, 4, 5);
        Make.ends(x, 1, 2, 3, 4, 5, 6, 7);
        Make.text(x, 0, "a=99 ".repeat(16));
        for (int k = 1; k <= 3; k++) {
            x.story(k, 0);
        }
        for (int e = 0; e < 12; e++) {
            x.sign(e % 8, 3, 3, 3);
            x.undo(e, e % 2);
        }
        for (int r = 0; r < 6; r++) {
            x.row(r, 40);
        }
        for (int t = 0; t < 4; t++) {
            x.text(t, 80);
        }
        return x;
    }

    private static void run(Method[] face, Random random, int seed) {
        boolean fromFull = seed % 2 == 0;
        TwoFliers x = fromFull ? full(seed) : new TwoFliers();
        TwoFliers y = fromFull ? full(seed) : new TwoFliers();
        for (int n = 0; n < 250; n++) {
            Method m = face[random.nextInt(face.length)];
            Object[] arguments = new Object[m.getParameterCount()];
            for (int i = 0; i < arguments.length; i++) {
                arguments[i] = random.nextInt(3) == 0 ? random.nextInt(120) : EDGES[random.nextInt(EDGES.length)];
            }
            CHECK.due("seed " + seed + " " + m.getName() + Arrays.toString(arguments), call(m, x, arguments), call(m, y, arguments));
        }
        CHECK.due("seed " + seed + " digest", x.digest(), y.digest());
    }

    private static long call(Method m, TwoFliers x, Object[] arguments) {
        try {
            return ((Number) m.invoke(x, arguments)).longValue();
        } catch (InvocationTargetException e) {
            CHECK.due(m.getName() + Arrays.toString(arguments) + " threw " + e.getCause(), 1, 0);
            return 0;
        } catch (IllegalAccessException e) {
            throw new IllegalStateException(e);
        }
    }
}
