import java.lang.reflect.InvocationTargetException;
import java.lang.reflect.Method;
import java.lang.reflect.Modifier;
import java.util.ArrayList;
import java.util.Comparator;
import java.util.List;
import java.util.Random;

/** No call ever throws, whatever its arguments and the state: the fullest churches and none, numbers at all edges. */
public final class WildTest {
    private static final int RUNS = 1500;
    private static final int CALLS = 500;
    private static final long[] EDGES = {Long.MIN_VALUE, Integer.MIN_VALUE, -3, -2, -1, 0, 9, 12, 20, 21, 40, 59, 60, 61, 99,
        100, 128, 1200, 2000000000, 2000000001, Integer.MAX_VALUE, Long.MAX_VALUE};
    private static final String[] TEXTS = {"",
        "church hours 12 boxes 1 odds 50;" + "penance days 9;".repeat(8)
                + "person sin 7 at 11 bears 9 minds 7 999;".repeat(7) + "left 0 7;",
        "church hours 12 boxes 3 odds 50;" + "penance days 9;".repeat(8)
                + "person sin 7 at 11 box 2 bears 9;".repeat(7) + "left 2 7;"};

    public static void main(String[] args) throws IllegalAccessException {
        Random random = new Random(9);
        List<Method> methods = new ArrayList<>();
        for (Method m : PassedPenance.class.getDeclaredMethods()) {
            if (Modifier.isPublic(m.getModifiers())) {
                methods.add(m);
            }
        }
        methods.sort(Comparator.comparing(Method::getName));
        for (int run = 0; run < RUNS; run++) {
            PassedPenance x = Check.told(TEXTS[run % TEXTS.length]);
            for (int i = 0; i < CALLS; i++) {
                Method m = methods.get(random.nextInt(methods.size()));
                // Wild bytes are a fault mostly, but an empty tape ends the church: seldom, then.
                if (!m.getName().equals("church") || random.nextInt(20) == 0) {
                    call(x, m, random);
                }
            }
        }
        System.out.println(RUNS + " wild runs, no call threw");
    }

    private static void call(PassedPenance x, Method m, Random random) throws IllegalAccessException {
        Object[] args = new Object[m.getParameterCount()];
        for (int k = 0; k < args.length; k++) {
            long v = random.nextBoolean() ? random.nextInt(9) : EDGES[random.nextInt(EDGES.length)];
            if (m.getParameterTypes()[k] == long.class) {
                args[k] = v;
            } else {
                args[k] = (int) v;
            }
        }
        try {
            m.invoke(x, args);
        } catch (InvocationTargetException e) {
            System.out.println(m.getName() + java.util.Arrays.toString(args) + " threw " + e.getCause());
            System.exit(1);
        }
    }
}
