import java.lang.reflect.InvocationTargetException;
import java.lang.reflect.Method;
import java.lang.reflect.Modifier;
import java.util.Arrays;
import java.util.Comparator;
import java.util.NoSuchElementException;
import java.util.Random;

/** Calls by chance with all kinds of arguments: nothing is thrown but what the document names; what only looks changes nothing. */
public final class FuzzTest {
    private static final Due due = new Due("FuzzTest");
    private static final int[] EDGES = {Integer.MIN_VALUE, -1000000000, -3, -2, -1, 0, 1, 2, 3, 4, 5, 6, 7, 8, 9, 10, 11, 12,
        13, 40, 98, 99, 100, 101, 159, 160, 161, 255, 511, 512, 999, 1000, 4095, 4096, 9999, 10000, 99999999,
        999999999, 1000000000, Integer.MAX_VALUE, 0x61357833, 0x3b643b74, 0x34000000, 0x64000000, 0x3b643b7a};
    /** What may change something; all others only look. */
    private static final String CHANGES = " feed end text set goats echo wind add act run undo two fog harvest kids image back ";

    private static Object argument(Class<?> type, Random by) {
        int edge = by.nextInt(3) == 0 ? by.nextInt(12) : EDGES[by.nextInt(EDGES.length)];
        if (type == boolean.class) {
            return by.nextBoolean();
        }
        if (type == long.class) {
            return by.nextBoolean() ? by.nextLong() : (long) edge;
        }
        return by.nextInt(20) == 0 ? by.nextInt() : edge;
    }

    private static long[] look(GoatAbacus x) {
        long[] all = new long[64];
        int n = 0;
        all[n++] = x.number();
        for (int what = 0; what < 7; what++) {
            all[n++] = x.told(what);
        }
        for (int what = 0; what < 5; what++) {
            all[n++] = x.count(what);
        }
        for (int rope = 0; rope < 12; rope++) {
            all[n++] = x.rope(rope, 1);
            all[n++] = x.rope(rope, 2);
        }
        all[n++] = x.fault();
        all[n++] = x.done(987654321, -1);
        all[n++] = x.miss(123456789, -1);
        return all;
    }

    private static boolean isRefusal(Object answer) {
        return Boolean.FALSE.equals(answer) || Integer.valueOf(-1).equals(answer);
    }

    private static void call(GoatAbacus x, Method m, Random by, boolean looked) throws IllegalAccessException {
        Object[] arguments = new Object[m.getParameterCount()];
        for (int i = 0; i < arguments.length; i++) {
            arguments[i] = argument(m.getParameterTypes()[i], by);
        }
        String told = m.getName() + Arrays.toString(arguments);
        long[] ahead = looked ? look(x) : null;
        boolean changes = CHANGES.contains(" " + m.getName() + " ");
        try {
            Object answer = m.invoke(x, arguments);
            if (looked && (!changes || isRefusal(answer))) {
                due.is(told + " changes nothing", Arrays.equals(ahead, look(x)), true);
            }
        } catch (InvocationTargetException e) {
            boolean fine = m.getName().equals("step") && e.getCause() instanceof NoSuchElementException;
            due.is(told + " threw " + e.getCause(), fine, true);
        }
    }

    public static void main(String[] args) throws IllegalAccessException {
        Method[] face = Arrays.stream(GoatAbacus.class.getDeclaredMethods())
                .filter(m -> Modifier.isPublic(m.getModifiers()))
                .sorted(Comparator.comparing(Method::getName)).toArray(Method[]::new);
        for (int seed = 0; seed < 20000; seed++) {
            Random by = new Random(seed);
            GoatAbacus x = new GoatAbacus(seed % 16 == 15 ? by.nextInt() : seed % 16 - 1);
            // An object has 512 calls: to look ahead of one and behind it takes some eighty.
            int calls = by.nextInt(260);
            for (int i = 0; i < calls + 3; i++) {
                call(x, face[by.nextInt(face.length)], by, i >= calls);
            }
        }
        due.close();
    }
}
