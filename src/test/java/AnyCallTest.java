import java.lang.reflect.InvocationTargetException;
import java.lang.reflect.Method;
import java.lang.reflect.Modifier;
import java.util.Arrays;
import java.util.Comparator;
import java.util.Random;

/** No call throws, whatever its arguments are and whatever was called ahead of it. */
public final class AnyCallTest {
    private static final int OBJECTS = 300;
    private static final int CALLS = 512;
    /** Drawn calls of land() soon leave no houses, so that there must be new ones. */
    private static final int CALLS_A_LAND = 32;
    private static final int[] EDGES = {
        Integer.MIN_VALUE, Integer.MIN_VALUE + 1, -1_000_000, -32, -31, -10, -9, -3, -2, -1, 0, 1, 2, 3,
        4, 5, 6, 7, 8, 9, 10, 11, 12, 15, 16, 17, 19, 20, 31, 32, 33, 60, 61, 63, 64, 99, 100, 900, 901,
        9999, 10_000, Integer.MAX_VALUE - 10, Integer.MAX_VALUE - 1, Integer.MAX_VALUE,
    };
    private static final String[] LANDS = {
        "", "house 3;", "house 9 level 1;house 20 level 2 stock 1;rope 0 1 long 2;rope 1 0 long 9 at 4;",
        "fly 3;house 9 level 1;house 9 level 1;house 9 level 1;house 9 level 1;rope 0 1 long 5;"
            + "rope 1 2 long 5 at 2;rope 2 3 long 4 stones 1 3;",
        "house 20 level 1 thirst 4095;".repeat(10) + "rope 0 9 long 3 at 1;".repeat(16),
        "house 8 level 1 thirst 1365;".repeat(6) + "rope 0 1 long 3;rope 1 2 long 3;rope 2 3 long 3;"
            + "rope 3 4 long 3;rope 4 5 long 3;rope 5 0 long 3;",
    };

    private AnyCallTest() {
    }

    public static void main(String[] args) throws Exception {
        Method[] methods = Arrays.stream(TwoWells.class.getDeclaredMethods())
                .filter(m -> Modifier.isPublic(m.getModifiers()))
                .sorted(Comparator.comparing(Method::getName)).toArray(Method[]::new);
        for (int seed = 0; seed < OBJECTS; seed++) {
            Random d = new Random(seed);
            TwoWells x = new TwoWells();
            for (int i = 0; i < CALLS; i++) {
                if (i % CALLS_A_LAND == 0) {
                    readAgain(x, LANDS[d.nextInt(LANDS.length)]);
                }
                Method m = methods[d.nextInt(methods.length)];
                call(x, m, arguments(m, d));
            }
        }
        System.out.println("no call throws");
    }

    private static void readAgain(TwoWells x, String text) {
        x.land(0);
        Calls.read(x, text);
    }

    private static Object[] arguments(Method m, Random d) {
        Class<?>[] types = m.getParameterTypes();
        Object[] values = new Object[types.length];
        for (int i = 0; i < types.length; i++) {
            int v = d.nextInt(3) == 0 ? EDGES[d.nextInt(EDGES.length)] : d.nextInt(12);
            if (types[i] == boolean.class) {
                values[i] = d.nextBoolean();
            } else if (types[i] == long.class) {
                values[i] = d.nextInt(4) == 0 ? d.nextLong() : (Object) (long) (d.nextInt(3) == 0 ? -1 : v);
            } else {
                values[i] = v;
            }
        }
        return values;
    }

    private static void call(TwoWells x, Method m, Object[] values) throws Exception {
        try {
            m.invoke(x, values);
        } catch (InvocationTargetException e) {
            System.out.println(m.getName() + Arrays.toString(values) + " throws " + e.getCause());
            System.exit(1);
        }
    }
}
