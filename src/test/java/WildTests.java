import java.lang.reflect.InvocationTargetException;
import java.lang.reflect.Method;
import java.lang.reflect.Modifier;
import java.util.ArrayList;
import java.util.Arrays;
import java.util.Comparator;
import java.util.List;
import java.util.Random;

/**
 * Rules 7 and 13 of ../shared/LANGUAGE.md: no call throws, for any arguments in any state, and the same calls
 * always give the same answers.
 */
public final class WildTests {
    private static final int CALLS = 512;
    private static final int RUNS = 400;
    private static final int[] EXTREMES = {Integer.MIN_VALUE, Integer.MIN_VALUE + 1, Integer.MAX_VALUE, Integer.MAX_VALUE - 1, -65536, 65536,
        -256, 256, -1, 0, 1, 8, 16, 32, 63, 64, 65, 119, 120, 121, 159, 160, 161, 200, 201, 1_000_000, 1_000_001, 1 << 30};
    // What fills an object: these are drawn more often than what only looks at it.
    private static final List<String> FILLING = Arrays.asList("table", "scan", "keep", "tally", "join", "half", "same", "explore", "deal", "row",
        "set", "show", "plan", "image");

    private WildTests() {
    }

    /** The calls of the face, in an order that is always the same. */
    private static List<Method> calls() {
        List<Method> calls = new ArrayList<>();
        for (Method m : PlanMemo.class.getDeclaredMethods()) {
            if (Modifier.isPublic(m.getModifiers())) {
                for (int times = FILLING.contains(m.getName()) ? 3 : 1; times > 0; times--) {
                    calls.add(m);
                }
            }
        }
        calls.sort(Comparator.comparing(Method::getName));
        return calls;
    }

    private static int number(Random random, int wild) {
        int kind = random.nextInt(100);
        if (kind >= wild) {
            return random.nextInt(kind % 2 == 0 ? 4 : 12);
        }
        return kind % 2 == 0 ? EXTREMES[random.nextInt(EXTREMES.length)] : random.nextInt();
    }

    private static Object[] arguments(Method call, Random random, int wild) {
        Class<?>[] types = call.getParameterTypes();
        Object[] arguments = new Object[types.length];
        for (int i = 0; i < types.length; i++) {
            if (types[i] == boolean.class) {
                arguments[i] = random.nextInt(4) != 0;
            } else if (types[i] == long.class) {
                arguments[i] = random.nextBoolean() ? random.nextLong() : (long) "scan 0(join1,keptly)".charAt(random.nextInt(20));
            } else {
                arguments[i] = number(random, wild);
            }
        }
        return arguments;
    }

    /** A TABLE that has all COLUMNS, so that not all that is drawn is refused. */
    private static PlanMemo begun(int run) {
        PlanMemo memo = new PlanMemo();
        for (int t = 0; t < run % 4; t++) {
            memo.table(1000 + run, 15, t - 1, 4 - t);
            memo.scan(t);
        }
        return memo;
    }

    private static boolean runs(int run, List<Method> calls) throws IllegalAccessException {
        Random random = new Random(run);
        PlanMemo one = begun(run);
        PlanMemo other = begun(run);
        int wild = new int[] {5, 20, 60, 100}[run / 4 % 4];
        for (int i = 8; i < CALLS; i++) {
            Method call = calls.get(random.nextInt(calls.size()));
            Object[] arguments = arguments(call, random, wild);
            String told = "run " + run + ", call " + i + ": " + call.getName() + Arrays.toString(arguments);
            try {
                Object first = call.invoke(one, arguments);
                Object second = call.invoke(other, arguments);
                if (!first.equals(second)) {
                    System.out.println(told + " answered " + first + ", then " + second);
                    return false;
                }
            } catch (InvocationTargetException thrown) {
                System.out.println(told + " threw " + thrown.getCause());
                return false;
            }
        }
        return true;
    }

    public static void main(String[] args) throws IllegalAccessException {
        Deadline.begin();
        List<Method> calls = calls();
        int failed = 0;
        for (int run = 0; run < RUNS; run++) {
            failed += runs(run, calls) ? 0 : 1;
        }
        System.out.println(RUNS + " runs with any arguments, " + failed + " of them wrong");
        if (failed != 0) {
            System.exit(1);
        }
    }
}
