import java.lang.reflect.InvocationTargetException;
import java.lang.reflect.Method;
import java.util.ArrayList;
import java.util.Arrays;
import java.util.List;

/** No call may throw, for any arguments in any state: all calls with all arguments at the edges, and wild runs. */
public final class EdgesTest {
    private static final long[] EDGES = {Integer.MIN_VALUE, -2, -1, 0, 1, 3, 7, 8, 41, 160, Integer.MAX_VALUE};

    private final Checks c = new Checks();

    public static void main(String[] args) throws Exception {
        EdgesTest test = new EdgesTest();
        for (int state = 0; state < 3; state++) {
            for (Method call : calls()) {
                test.allEdges(call, state);
            }
        }
        for (int run = 0; run < 200; run++) {
            test.wildRun(run);
        }
        test.c.end();
    }

    private static List<Method> calls() {
        List<Method> out = new ArrayList<>();
        for (Method method : PieFunnels.class.getDeclaredMethods()) {
            if (Arrays.asList(Runs.CALLS).contains(method.getName())) {
                out.add(method);
            }
        }
        return out;
    }

    /** 0: new; 1: full of PIES and BIRDS; 2: of texts, long ROWS, SIGNS. */
    private static PieFunnels inState(int state) {
        PieFunnels x = new PieFunnels();
        if (state == 0) {
            return x;
        }
        for (int kind = 0; kind < 7; kind++) {
            x.bird(kind, kind, 2 * kind);
        }
        x.ask(2, 170);
        Checks.fill(x, 0, 1, 2, 3);
        Checks.fillSort(x, 1, 3, -1, -1, 9, -1);
        Checks.fill(x, 3, 7, 7, 7, 7, 7, 7, 7, 7);
        x.show(7, 3);
        if (state == 2) {
            x.row(0, 3, 160);
            x.set(0, 159, Long.MIN_VALUE);
            Checks.text(x, 1, "ill 3;heat");
            x.row(3, 2, 0);
            x.image();
            x.act(6, 2, Integer.MIN_VALUE);
        }
        return x;
    }

    private void allEdges(Method call, int state) throws Exception {
        int many = call.getParameterCount();
        long all = 1;
        for (int i = 0; i < many; i++) {
            all *= EDGES.length;
        }
        PieFunnels x = inState(state);
        // each 7th of the many of copy() is enough, and no factor of their number
        for (long number = 0; number < all; number += all > 100000 ? 7 : 1) {
            if (number % 256 == 0) {
                x = inState(state);
            }
            Object[] arguments = new Object[many];
            long rest = number;
            for (int i = 0; i < many; i++) {
                arguments[i] = as(call.getParameterTypes()[i], EDGES[(int) (rest % EDGES.length)]);
                rest /= EDGES.length;
            }
            invoke(call, x, arguments);
        }
    }

    private static Object as(Class<?> type, long v) {
        if (type == long.class) {
            return v;
        }
        return (int) v;
    }

    private void wildRun(int number) throws Exception {
        Runs runs = new Runs(1000 + number, number % 2 == 0 ? 100 : 40);
        PieFunnels x = inState(1 + number % 2);
        List<Method> calls = calls();
        for (int i = 0; i < 512; i++) {
            Method call = calls.get(runs.below(calls.size()));
            invoke(call, x, runs.arguments(call.getName()));
        }
    }

    private void invoke(Method call, PieFunnels x, Object[] arguments) throws Exception {
        try {
            call.invoke(x, arguments);
            c.due(call.getName(), 0, 0);
        } catch (InvocationTargetException thrown) {
            c.fail(call.getName() + Arrays.toString(arguments) + " threw " + thrown.getCause());
        }
    }
}
