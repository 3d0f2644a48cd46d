import java.util.List;

/**
 * Each refused call by the words that tell of it: its number, that it comes ahead of those behind it in REFUSALS, that
 * it is counted once, and that nothing else changes by it.
 */
public final class RefusalsTest {
    private static final int MIN = Integer.MIN_VALUE;
    private static final int MAX = Integer.MAX_VALUE;
    private static final int NONE = PieFunnels.NONE;
    private static final int[] NO_SHELVES = {-1, 8, MIN, MAX};
    private static final int[] NO_BIRDS = {-1, Twins.NO_BIRD, 7, MIN, MAX};

    private final Checks c = new Checks();
    private final RefusalsOfPies ofPies = new RefusalsOfPies(this, c);

    public static void main(String[] args) {
        RefusalsTest t = new RefusalsTest();
        t.refusals();
        t.row();
        t.set();
        t.copy();
        t.copyBeyond();
        t.show();
        t.says();
        t.bird();
        t.ask();
        t.table();
        t.comes();
        t.birdOf();
        t.bakery();
        t.soonest();
        t.safeAndNext();
        t.alike();
        t.years();
        t.restore();
        t.notRefused();
        t.ofPies.all();
        t.c.end();
    }

    /** In the world that has all kinds of things. */
    void no(int due, String call, long... arguments) {
        no(Twins.world(), Twins.world(), due, call, arguments);
    }

    /** x and twin have the same calls behind them; only x is asked for what is refused. */
    void no(PieFunnels x, PieFunnels twin, int due, String call, long... arguments) {
        String told = Calls.told(call, arguments);
        c.due(told, Calls.on(x, call, arguments), due);
        int counted = due < -10 ? -due - 10 : -due;
        for (int refusal = 1; refusal <= 7; refusal++) {
            int more = refusal == counted ? 1 : 0;
            c.due("REFUSALS -" + refusal + " behind " + told, x.status(10 + refusal), twin.status(10 + refusal) + more);
        }
        List<Long> all = Twins.all(x);
        List<Long> due2 = Twins.all(twin);
        c.that("nothing else changes by " + told + ": " + all + ", due is " + due2, all.equals(due2));
    }

    /** The call is refused for each number that is no SHELF, in the place of its argument. */
    void noShelf(int due, String call, int place, long... arguments) {
        for (int s : NO_SHELVES) {
            arguments[place] = s;
            no(due, call, arguments);
        }
    }

    void noBird(int due, String call, int place, long... arguments) {
        for (int bird : NO_BIRDS) {
            arguments[place] = bird;
            no(due, call, arguments);
        }
    }

    void each(int due, String call, int place, int[] values, long... arguments) {
        for (int v : values) {
            arguments[place] = v;
            no(due, call, arguments);
        }
    }

    private void refusals() {
        c.sentence(0, "REFUSALS (the call answers the number; nothing changes but how many there were; the first that "
            + "fits, in this order)");
        no(-1, "row", 8, 4, -1);
        c.sentence(0, "-1 NOBODY: no such SHELF, BIRD, KIND.");
        no(-1, "set", 8, 0, 0);
        no(-1, "safe", Twins.NO_BIRD);
        no(-1, "bird", 7, 0, 0);
        c.sentence(0, "-2 OTHER: a SHELF that holds a BIRD where a ROW is wanted, or the other way about, ROWS of two "
            + "SORTS, a BIRD that isn't of the KIND wanted, or one under it.");
        no(-2, "set", Twins.A_BIRD, 0, 0);
        no(-12, "says", Twins.PIE, 0);
        no(-2, "copy", Twins.PIE, Twins.SIGNS, 0, 0, 1);
        no(-12, "says", Twins.A_BIRD, 1);
        c.sentence(0, "-3 NOTHING: a SHELF that holds NOTHING.");
        no(-3, "set", Twins.NOTHING, 0, 0);
        c.sentence(0, "-4 BELOW: a size below 0.");
        no(-4, "row", 0, 0, -1);
        c.sentence(0, "-5 BEYOND: an element that isn't there; nothing such to be told of.");
        no(-5, "set", Twins.PIE, 3, 0);
        no(-5, "comes", 8, 0);
        c.sentence(0, "-6 WRONG: a number that may not be, a FAULT, no PIE, what can't be as things stand.");
        no(-6, "ask", 0, 10);
        no(-6, "bakery", Twins.TEXT);
        no(-6, "bake", Twins.NO_PIE, 0);
        no(new PieFunnels(), new PieFunnels(), -6, "restore");
        c.sentence(0, "-7 ROOM: more than may be.");
        no(-7, "row", 0, 0, 161);
        no(Twins.fullWorld(), Twins.fullWorld(), -7, "bird", 0, 0, 0);
    }

    private void row() {
        c.sentence(2, "-1");
        for (int n : new int[] {1, -1, 161}) {
            noShelf(-1, "row", 0, 0, 2, n);
            noShelf(-1, "row", 0, 0, 4, n);
        }
        c.sentence(2, "-4");
        for (int s = 0; s < 4; s++) {
            each(-4, "row", 2, new int[] {-1, MIN}, s, 2, 0);
        }
        each(-4, "row", 1, new int[] {-1, 4}, 0, 0, -1);
        c.sentence(2, "-6 SORT");
        for (int n : new int[] {0, 160, 161, MAX}) {
            each(-6, "row", 1, new int[] {-1, 4, MIN, MAX}, Twins.PIE, 0, n);
        }
        no(-6, "row", Twins.A_BIRD, 4, 1);
        c.sentence(2, "-7 n above 160");
        for (int sort = 0; sort < 4; sort++) {
            each(-7, "row", 2, new int[] {161, MAX}, sort, sort, 0);
        }
    }

    private void set() {
        c.sentence(3, "-1");
        noShelf(-1, "set", 0, 0, 0, 1);
        noShelf(-1, "set", 0, 0, -1, 1);
        c.sentence(3, "-2");
        no(-2, "set", Twins.A_BIRD, 0, 1);
        no(-2, "set", Twins.A_BIRD, -1, 1);
        c.sentence(3, "-3");
        no(-3, "set", Twins.NOTHING, 0, 1);
        no(-3, "set", Twins.NOTHING, 160, 1);
        c.sentence(3, "-5");
        each(-5, "set", 1, new int[] {-1, 3, 160, MIN, MAX}, Twins.PIE, 0, 1);
        each(-5, "set", 1, new int[] {-1, 12}, Twins.TEXT, 0, 1);
    }

    private void copy() {
        c.sentence(4, "-1");
        for (int other : new int[] {Twins.PIE, Twins.A_BIRD, Twins.NOTHING, 8}) {
            noShelf(-1, "copy", 0, 0, other, 0, 0, 1);
            noShelf(-1, "copy", 1, other, 0, -1, 9, -1);
        }
        c.sentence(4, "-2 also of two SORTS (when both hold something)");
        for (int other : new int[] {Twins.PIE, Twins.A_BIRD, Twins.NOTHING}) {
            no(-2, "copy", Twins.A_BIRD, other, 0, 0, 1);
            no(-2, "copy", other, Twins.A_BIRD, -1, 9, -1);
        }
        no(-2, "copy", Twins.PIE, Twins.SIGNS, 0, 0, 1);
        no(-2, "copy", Twins.SIGNS, Twins.WISHES, 0, 0, 0);
        no(-2, "copy", Twins.TWOS, Twins.PIE, -1, 0, 1);
        no(-2, "copy", Twins.PIE, Twins.TWOS, 0, 0, -1);
        c.sentence(4, "-3 either");
        for (int other : new int[] {Twins.PIE, Twins.SIGNS, Twins.NOTHING}) {
            no(-3, "copy", Twins.NOTHING, other, 0, 0, 0);
            no(-3, "copy", other, Twins.NOTHING, 0, 0, 0);
            no(-3, "copy", other, Twins.NOTHING, -1, 9, -1);
        }
    }

    private void copyBeyond() {
        c.sentence(4, "-4 n");
        each(-4, "copy", 4, new int[] {-1, MIN}, Twins.PIE, Twins.NO_PIE, 0, 0, 0);
        no(-4, "copy", Twins.PIE, Twins.NO_PIE, -1, 0, -1);
        no(-4, "copy", Twins.PIE, Twins.NO_PIE, 0, 9, -1);
        c.sentence(4, "-5 i or j below 0, or an end that isn't there");
        for (int n : new int[] {0, 1, 2}) {
            each(-5, "copy", 2, new int[] {-1, MIN, 4 - n, MAX}, Twins.PIE, Twins.NO_PIE, 0, 0, n);
            each(-5, "copy", 3, new int[] {-1, MIN, 3 - n, MAX}, Twins.PIE, Twins.NO_PIE, 0, 0, n);
        }
        no(-5, "copy", Twins.NO_PIE, Twins.PIE, 0, 0, 3);
        no(-5, "copy", Twins.PIE, Twins.NO_PIE, 0, 0, 3);
        no(-5, "copy", Twins.PIE, Twins.PIE, 1, 0, 3);
        no(-5, "copy", Twins.PIE, Twins.PIE, 0, 1, 3);
        no(-5, "copy", Twins.PIE, Twins.PIE, 1, 1, MAX);
        no(-5, "copy", Twins.PIE, Twins.PIE, MAX, 0, MAX);
        no(-5, "copy", Twins.PIE, Twins.PIE, 0, MAX, MAX);
        no(-5, "copy", Twins.PIE, Twins.PIE, -1, 0, 0);
        no(-5, "copy", Twins.PIE, Twins.PIE, -1, -1, 2);
    }

    private void show() {
        c.sentence(6, "-1");
        noShelf(-1, "show", 0, 0, 0);
        noShelf(-1, "show", 0, 0, NONE);
        for (int s = 0; s < 4; s++) {
            each(-1, "show", 1, new int[] {-2, Twins.NO_BIRD, 7, MIN, MAX}, s, 0);
        }
        no(new PieFunnels(), new PieFunnels(), -1, "show", 0, 0);
    }

    private void says() {
        c.sentence(8, "-11 SHELF, KIND");
        noShelf(-11, "says", 0, 0, 0);
        for (int s : new int[] {Twins.PIE, Twins.A_BIRD, Twins.NOTHING, 8}) {
            each(-11, "says", 1, new int[] {-1, 7, MIN, MAX}, s, 0);
        }
        c.sentence(8, "-12 also a BIRD of another KIND");
        for (int kind = 0; kind < 7; kind++) {
            no(-12, "says", Twins.PIE, kind);
        }
        // it is PRICKED
        each(-12, "says", 1, new int[] {1, 2, 3, 5, 6}, Twins.A_BIRD, 0);
        c.sentence(8, "-13 (counted as -1 to -3)");
        for (int kind = 0; kind < 7; kind++) {
            no(-13, "says", Twins.NOTHING, kind);
        }
    }

    private void bird() {
        c.sentence(9, "-1 KIND");
        each(-1, "bird", 0, new int[] {-1, 7, MIN, MAX}, 0, 0, 0);
        no(-1, "bird", 7, 10, 0);
        no(-1, "bird", -1, 0, 20);
        no(Twins.fullWorld(), Twins.fullWorld(), -1, "bird", 7, 0, 0);
        c.sentence(9, "-6");
        each(-6, "bird", 1, new int[] {-1, 10, MIN, MAX}, 0, 0, 0);
        each(-6, "bird", 2, new int[] {-1, 20, MIN, MAX}, 6, 0, 0);
        no(Twins.fullWorld(), Twins.fullWorld(), -6, "bird", 0, 10, 0);
        no(Twins.fullWorld(), Twins.fullWorld(), -6, "bird", 0, 0, 20);
        c.sentence(9, "-7");
        for (int kind = 0; kind < 7; kind++) {
            no(Twins.fullWorld(), Twins.fullWorld(), -7, "bird", kind, 9, 19);
        }
    }

    private void ask() {
        c.sentence(10, "-6");
        each(-6, "ask", 0, new int[] {-1, 3, MIN, MAX}, 0, 0);
        each(-6, "ask", 1, new int[] {-1, 10, MIN, MAX}, 0, 0);
        each(-6, "ask", 1, new int[] {-1, 8, MIN, MAX}, 1, 0);
        each(-6, "ask", 1, new int[] {-1, 256, MIN, MAX}, 2, 0);
    }

    private void table() {
        c.sentence(11, "-6");
        each(-6, "table", 0, new int[] {-1, 8, MIN, MAX}, 0, 0, 1);
        each(-6, "table", 1, new int[] {-1, 5, MIN, MAX}, 1, 0, 1);
        each(-6, "table", 2, new int[] {-1, 8, MIN, MAX}, 1, 0, 1);
    }

    private void comes() {
        c.sentence(12, "-5");
        each(-5, "comes", 0, new int[] {-1, 8, MIN, MAX}, 0, 0);
        each(-5, "comes", 1, new int[] {-1, 5, MIN, MAX}, 1, 0);
    }

    private void birdOf() {
        c.sentence(13, "-5: no such one, another what");
        noBird(-5, "birdOf", 0, 0, 0);
        each(-5, "birdOf", 1, new int[] {-1, 3, MIN, MAX}, 0, 0);
    }

    private void bakery() {
        c.sentence(14, "-1");
        noShelf(-1, "bakery", 0, 0);
        c.sentence(14, "-2");
        no(-2, "bakery", Twins.A_BIRD);
        c.sentence(14, "-3");
        no(-3, "bakery", Twins.NOTHING);
        c.sentence(14, "-6 a FAULT");
        no(-6, "bakery", Twins.TEXT);
        PieFunnels x = Twins.world();
        c.asks(x, -6, "bakery", Twins.PIE);
        c.due("the FAULT of a PIE", x.fault(), 0);
        c.due("REFUSALS -6", x.status(16), 2);
    }

    private void soonest() {
        c.sentence(18, "-11");
        for (int state : new int[] {0, 8, -1}) {
            noBird(-11, "soonest", 0, 0, state, NONE);
            noBird(-11, "soonest", 0, 0, state, 99);
        }
        c.sentence(18, "-15 not so many, none");
        // the world's STATE stands; from it a PIE of no layers brings it
        int state = Twins.world().status(2);
        each(-15, "soonest", 2, new int[] {-2, 0, 1, MIN, MAX}, 0, state, 0);
        int one = Twins.world().comes(state, 4);
        c.asks(Twins.world(), 1, "soonest", 0, one, NONE);
        each(-15, "soonest", 2, new int[] {-2, 1, 2, MIN, MAX}, 0, one, 0);
        // of three layers CHILD says one SIGN at most, so that two STATES at least are brought by none
        each(-15, "soonest", 2, new int[] {-2, 0, 1, 2, MIN, MAX}, 5, unbrought(5), 0);
        c.sentence(18, "-16 STATE (counted as -1, -5, -6; -16 ahead of -15)");
        for (int i : new int[] {NONE, 0, -2, 99}) {
            each(-16, "soonest", 1, new int[] {-1, 8, MIN, MAX}, 0, 0, i);
        }
    }

    /** A STATE that no PIE brings by a BIRD, in the world. */
    private int unbrought(int bird) {
        PieFunnels x = Twins.world();
        for (int state = 0; state < 8; state++) {
            if (x.soonest(bird, state, NONE) == NONE) {
                return state;
            }
        }
        c.fail("each STATE is brought by " + bird);
        return 0;
    }

    private void safeAndNext() {
        c.sentence(19, "-1");
        noBird(-1, "safe", 0, 0);
        no(new PieFunnels(), new PieFunnels(), -1, "safe", 0);
        c.sentence(22, "-11 (counted as -1)");
        noBird(-11, "next", 0, 0);
        no(new PieFunnels(), new PieFunnels(), -11, "next", 0);
    }

    private void alike() {
        c.sentence(28, "-1");
        noBird(-1, "alike", 0, 0, 0);
        noBird(-1, "alike", 1, 0, 0);
        noBird(-1, "alike", 0, 0, -1);
    }

    private void years() {
        c.sentence(31, "-5 no BIRDS");
        for (int n : new int[] {1, 60, 0, 61, -1, MIN, MAX}) {
            no(new PieFunnels(), new PieFunnels(), -5, "years", n);
        }
        c.sentence(31, "-6");
        each(-6, "years", 0, new int[] {0, -1, 61, MIN, MAX}, 0);
    }

    private void restore() {
        c.sentence(36, "-6 there is none");
        PieFunnels x = new PieFunnels();
        PieFunnels twin = new PieFunnels();
        for (PieFunnels one : new PieFunnels[] {x, twin}) {
            one.bird(1, 2, 3);
            one.show(0, 0);
            one.ask(1, 4);
        }
        no(x, twin, -6, "restore");
        c.asks(x, 0, "holds", 0);
    }

    private void notRefused() {
        c.sentence(5, "0 if there is none (nothing is refused)");
        for (long[] none : new long[][] {{Twins.PIE, 3}, {Twins.PIE, -1}, {Twins.PIE, MIN}, {Twins.PIE, MAX},
            {Twins.A_BIRD, 0}, {Twins.NOTHING, 0}, {-1, 0}, {8, 0}, {MIN, MIN}, {MAX, MAX}}) {
            quiet(0, "element", none);
        }
        c.sentence(7, "NONE NOTHING, or no such SHELF");
        for (int s : new int[] {Twins.NOTHING, -1, 8, MIN, MAX}) {
            quiet(NONE, "holds", s);
        }
        c.sentence(34, "NONE: none such");
        for (int i : new int[] {-1, 11, 19, 20, MIN, MAX}) {
            quiet(NONE, "trace", i);
        }
        c.sentence(37, "NONE for another what");
        for (int what : new int[] {-1, 8, 9, 10, 18, MIN, MAX}) {
            quiet(NONE, "status", what);
        }
        c.sentence(15, "The FAULT of the latest bakery() that came to a ROW");
        quiet(11, "fault");
        c.sentence(37, "11 to 17: REFUSALS -1 to -7");
        for (int what = 11; what <= 17; what++) {
            quiet(what == 16 ? 1 : 0, "status", what);
        }
    }

    /** Answers, and neither is refused nor changes anything. */
    private void quiet(int due, String call, long... arguments) {
        PieFunnels x = Twins.world();
        PieFunnels twin = Twins.world();
        String told = Calls.told(call, arguments);
        c.due(told, Calls.on(x, call, arguments), due);
        for (int refusal = 11; refusal <= 17; refusal++) {
            c.due("status(" + refusal + ") behind " + told, x.status(refusal), twin.status(refusal));
        }
        c.that("nothing changes by " + told, Twins.all(x).equals(Twins.all(twin)));
    }
}
