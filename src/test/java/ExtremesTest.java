import java.lang.reflect.InvocationTargetException;
import java.lang.reflect.Method;
import java.lang.reflect.Modifier;
import java.util.ArrayList;
import java.util.List;
import java.util.Set;
import java.util.function.Supplier;

/**
 * Every call with every choice of far and near numbers, on a new council, on one in the midst of things, and on
 * one that is full: none throws; a call that refuses and answers -1 to -7 counts one of that number and no other,
 * and what only looks, or was done, counts none.
 */
public final class ExtremesTest {
    private static final int[] INTS = {Integer.MIN_VALUE, -1, 0, 1, 3, 12, 60, Integer.MAX_VALUE};
    private static final long[] LONGS = {Long.MIN_VALUE, -1, 0, Integer.MIN_VALUE, 1L << 32, Long.MAX_VALUE};
    private static final Set<String> LOOKING = Set.of("element", "holds", "about", "claims", "claim", "results", "fault",
        "bars", "ruling", "like", "apart", "binding", "clash", "step", "leastSet", "beside", "stopped", "status");
    private static final int TRIES = 20;

    private static final Check c = new Check("ExtremesTest");

    public static void main(String[] args) throws ReflectiveOperationException {
        c.sentence("T5", "REFUSALS (the call answers the number; nothing changes but how many there were)");
        for (Method method : AdvertCouncil.class.getDeclaredMethods()) {
            if (Modifier.isPublic(method.getModifiers())) {
                List<Object[]> choices = choices(method.getParameterTypes());
                tryAll(method, choices, AdvertCouncil::new);
                tryAll(method, choices, House::made);
                tryAll(method, choices, House::full);
            }
        }
        c.end();
    }

    private static List<Object[]> choices(Class<?>[] types) {
        List<Object[]> all = new ArrayList<>();
        all.add(new Object[types.length]);
        for (int at = 0; at < types.length; at++) {
            List<Object[]> more = new ArrayList<>();
            for (Object[] one : all) {
                for (Object value : valuesOf(types[at])) {
                    Object[] next = one.clone();
                    next[at] = value;
                    more.add(next);
                }
            }
            all = more;
        }
        return all;
    }

    private static List<Object> valuesOf(Class<?> type) {
        List<Object> values = new ArrayList<>();
        if (type == boolean.class) {
            values.add(false);
            values.add(true);
        } else if (type == long.class) {
            for (long v : LONGS) {
                values.add(v);
            }
        } else {
            for (int v : INTS) {
                values.add(v);
            }
        }
        return values;
    }

    /** A council answers for some few tries, as each look at its refusals is a call, too. */
    private static void tryAll(Method method, List<Object[]> choices, Supplier<AdvertCouncil> made)
        throws ReflectiveOperationException {
        AdvertCouncil x = null;
        int[] before = null;
        for (int n = 0; n < choices.size(); n++) {
            if (n % TRIES == 0) {
                x = made.get();
                before = refusals(x);
            }
            Object[] arguments = choices.get(n);
            String call = method.getName() + List.of(arguments);
            long answer = answerOf(method, x, arguments, call);
            boolean isNothing = method.getName().equals("keep") && arguments[1].equals(-1) && (int) arguments[0] >= 0
                && (int) arguments[0] < 8;
            if (answer < 0 && answer >= -7 && !LOOKING.contains(method.getName()) && !isNothing) {
                before[(int) (-1 - answer)]++;
            }
            int[] after = refusals(x);
            for (int r = 0; r < 7; r++) {
                if (after[r] != before[r]) {
                    c.due(call + ", answered " + answer + ": refusals of " + (-1 - r), after[r], before[r]);
                }
            }
            before = after;
        }
        c.due(method.getName() + " was tried with all choices", choices.isEmpty() ? 0 : 1, 1);
    }

    private static long answerOf(Method method, AdvertCouncil x, Object[] arguments, String call)
        throws ReflectiveOperationException {
        try {
            return ((Number) method.invoke(x, arguments)).longValue();
        } catch (InvocationTargetException e) {
            c.due(call + " threw " + e.getCause(), 1, 0);
            return 0;
        }
    }

    private static int[] refusals(AdvertCouncil x) {
        int[] all = new int[7];
        for (int n = 0; n < 7; n++) {
            all[n] = x.status(11 + n);
        }
        return all;
    }
}
