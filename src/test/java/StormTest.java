import java.lang.reflect.InvocationTargetException;
import java.lang.reflect.Method;
import java.lang.reflect.Modifier;
import java.util.ArrayList;
import java.util.Comparator;
import java.util.List;
import java.util.Random;

/**
 * Many calls with wild arguments, far more than the 512 for which answers are promised: each one answers, or throws
 * an exception that its signature names. What the machine throws itself is of another class, so it would be seen.
 */
public final class StormTest {
    private static final int OFFICES = 20;
    private static final int CALLS = 5000;
    private static final int[] WILD = {-1, -2, -31, -32, -256, 4, 5, 6, 7, 8, 9, 10, 19, 20, 31, 32, 33, 63, 64, 255,
        256, 400, 401, 999, 1000, 3650, 65535, 65536, Integer.MAX_VALUE - 9, Integer.MAX_VALUE, Integer.MIN_VALUE,
        Integer.MIN_VALUE + 1, Integer.MIN_VALUE + 10};

    private static final Checks checks = new Checks();

    public static void main(String[] args) throws IllegalAccessException {
        List<Method> face = new ArrayList<>();
        for (Method method : Degreewall.class.getDeclaredMethods()) {
            if (Modifier.isPublic(method.getModifiers())) {
                face.add(method);
            }
        }
        // The order in which methods are found is free; the runs shall be the same each time.
        face.sort(Comparator.comparing(Method::getName));
        for (int seed = 0; seed < OFFICES; seed++) {
            storm(face, new Random(seed));
        }
        checks.end();
    }

    private static void storm(List<Method> face, Random random) throws IllegalAccessException {
        Degreewall office = new Degreewall();
        for (int call = 0; call < CALLS; call++) {
            Method method = face.get(random.nextInt(face.size()));
            Object[] values = valuesFor(method, random);
            String thrown = "nothing";
            boolean named = true;
            try {
                method.invoke(office, values);
            } catch (InvocationTargetException e) {
                thrown = e.getCause().getClass().getName();
                named = List.of(method.getExceptionTypes()).contains(e.getCause().getClass());
            }
            checks.same(method.getName() + " throws " + thrown + ", which its signature names", String.valueOf(named),
                    "true");
        }
    }

    private static Object[] valuesFor(Method method, Random random) {
        Class<?>[] types = method.getParameterTypes();
        Object[] values = new Object[types.length];
        boolean wild = random.nextInt(4) == 0;
        for (int k = 0; k < types.length; k++) {
            if (types[k] == boolean.class) {
                values[k] = random.nextBoolean();
            } else {
                values[k] = wild ? WILD[random.nextInt(WILD.length)] : random.nextInt(k == 0 ? 20 : 16);
            }
        }
        return values;
    }
}
