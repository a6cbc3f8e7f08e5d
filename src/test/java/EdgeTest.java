import java.lang.reflect.InvocationTargetException;
import java.lang.reflect.Method;
import java.lang.reflect.Modifier;
import java.util.ArrayList;
import java.util.Comparator;
import java.util.List;
import java.util.Random;

/** Every call with numbers at and beyond the edges, in states of all kinds: nothing ever throws. */
final class EdgeTest {
    private static final int[] EDGES = {
        Integer.MIN_VALUE, Integer.MIN_VALUE + 1, -65536, -129, -33, -17, -16, -3, -2, -1, 0, 1, 2,
        3, 4, 5, 7, 8, 9, 14, 15, 16, 17, 20, 21, 23, 24, 25, 31, 32, 33, 47, 48, 49, 126, 127,
        128, 129, 399, 400, 401, 29988, 29989, 65535, 99999, 100000, 1 << 30,
        Integer.MAX_VALUE - 15, Integer.MAX_VALUE - 1, Integer.MAX_VALUE,
    };
    private static final int RUNS = 60;
    private static final int CALLS = 512;

    private static final Due due = new Due();

    public static void main(String[] args) throws IllegalAccessException {
        List<Method> face = new ArrayList<>();
        for (Method method : PatchedColumns.class.getDeclaredMethods()) {
            if (Modifier.isPublic(method.getModifiers())) {
                face.add(method);
            }
        }
        // Reflection tells no order of its own, and every run must be the same.
        face.sort(Comparator.comparing(Method::getName));
        for (int seed = 0; seed < RUNS; seed++) {
            run(face, new Random(seed));
        }
        due.end("EdgeTest");
    }

    private static void run(List<Method> face, Random random) throws IllegalAccessException {
        PatchedColumns made = new PatchedColumns();
        Model model = new Model();
        for (int i = 0; i < CALLS; i++) {
            Method method = face.get(random.nextInt(face.size()));
            if (random.nextInt(3) == 0) {
                // Else columns would stay nearly empty.
                int column = random.nextInt(3);
                due.is("walk", made.walk(column, i, i * 7, 1 + i % 48), model.walk(column, i, i * 7, 1 + i % 48));
                continue;
            }
            Object[] told = new Object[method.getParameterCount()];
            for (int p = 0; p < told.length; p++) {
                told[p] = drawn(method.getParameterTypes()[p], random, p);
            }
            long got = called(made, method, told);
            long want = called(model, twin(method), told);
            due.is(method.getName() + List.of(told), got, want);
        }
    }

    private static Object drawn(Class<?> type, Random random, int position) {
        if (type == boolean.class) {
            return random.nextBoolean();
        }
        if (position == 0 && random.nextInt(2) == 0) {
            return random.nextInt(3);
        }
        return EDGES[random.nextInt(EDGES.length)];
    }

    private static Method twin(Method method) {
        try {
            return Model.class.getDeclaredMethod(method.getName(), method.getParameterTypes());
        } catch (NoSuchMethodException missing) {
            throw new IllegalStateException(missing);
        }
    }

    private static long called(Object on, Method method, Object[] told)
            throws IllegalAccessException {
        try {
            Object answer = method.invoke(on, told);
            if (answer instanceof Boolean) {
                return (Boolean) answer ? 1 : 0;
            }
            return ((Number) answer).longValue();
        } catch (InvocationTargetException thrown) {
            System.out.println(method.getName() + List.of(told) + " threw " + thrown.getCause());
            System.exit(1);
            return 0;
        }
    }
}
