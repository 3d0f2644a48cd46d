import java.util.Arrays;

/**
 * No call may throw, for any arguments in any state, and each answers as the model does: all calls with all arguments at
 * the edges, and wild runs.
 */
public final class EdgesTest {
    private static final long[] EDGES = {Integer.MIN_VALUE, -2, -1, 0, 1, 3, 7, 8, 41, 160, Integer.MAX_VALUE};

    private final Checks c = new Checks();
    private Object program;
    private Object model;

    public static void main(String[] args) {
        EdgesTest test = new EdgesTest();
        for (int state = 0; state < 3; state++) {
            for (String call : Runs.CALLS) {
                test.c.about("all arguments at the edges");
                test.allEdges(call, state);
            }
        }
        for (int run = 0; run < 200; run++) {
            test.c.about("wild run " + run);
            test.wildRun(run);
        }
        test.c.end();
    }

    /** 0: new; 1: full of PIES and BIRDS; 2: of texts, long ROWS, SIGNS. */
    private void begin(int state) {
        program = new PieFunnels();
        model = new Model();
        if (state == 0) {
            return;
        }
        for (int kind = 0; kind < 7; kind++) {
            both("bird", kind, kind, 2 * kind);
        }
        both("ask", 2, 170);
        fill(0, 2, 1, 2, 3);
        fill(1, 3, -1, -1, 9, -1);
        fill(3, 2, 7, 7, 7, 7, 7, 7, 7, 7);
        both("show", 7, 3);
        if (state == 2) {
            both("row", 0, 3, 160);
            both("set", 0, 159, Long.MIN_VALUE);
            fill(1, 1, 'i', 'l', 'l', ' ', '3', ';', 'h', 'e', 'a', 't');
            both("row", 3, 2, 0);
            both("image");
            both("act", 6, 2, Integer.MIN_VALUE);
        }
    }

    private void fill(int s, int sort, long... values) {
        both("row", s, sort, values.length);
        for (int i = 0; i < values.length; i++) {
            both("set", s, i, values[i]);
        }
    }

    private void both(String call, long... arguments) {
        long got = Calls.on(program, call, arguments);
        long due = Calls.on(model, call, arguments);
        if (got != due) {
            c.due(Calls.told(call, arguments) + " (due by the model)", got, due);
        } else {
            c.due(call, 0, 0);
        }
    }

    private void refusals() {
        for (int what = 11; what < 18; what++) {
            both("status", what);
        }
    }

    private void allEdges(String call, int state) {
        int many = Calls.arguments(call);
        long all = 1;
        for (int i = 0; i < many; i++) {
            all *= EDGES.length;
        }
        begin(state);
        int asked = 0;
        // each 7th of the many of copy() is enough, and no factor of their number
        for (long number = 0; number < all; number += all > 100000 ? 7 : 1) {
            long[] arguments = new long[many];
            long rest = number;
            for (int i = 0; i < many; i++) {
                arguments[i] = EDGES[(int) (rest % EDGES.length)];
                rest /= EDGES.length;
            }
            both(call, arguments);
            asked++;
            if (asked % 256 == 0) {
                refusals();
                begin(state);
            }
        }
        refusals();
    }

    private void wildRun(int number) {
        Runs runs = new Runs(1000 + number, number % 2 == 0 ? 100 : 40);
        begin(1 + number % 2);
        for (int i = 0; i < 400; i++) {
            String call = Runs.CALLS[runs.below(Runs.CALLS.length)];
            long[] arguments = Arrays.stream(runs.arguments(call)).mapToLong(one -> ((Number) one).longValue()).toArray();
            both(call, arguments);
        }
        refusals();
    }
}
