import java.util.ArrayList;
import java.util.List;

/**
 * Objects with all kinds of things in them, and all that can be asked of one: two of them differ by what a call has
 * changed, and by nothing else.
 */
final class Twins {
    /** Six BIRDS stand there, so this one doesn't. */
    static final int NO_BIRD = 6;
    static final int PIE = 0;
    static final int SIGNS = 1;
    static final int A_BIRD = 2;
    static final int NOTHING = 3;
    /** 10 3: of the PIE's SORT. */
    static final int NO_PIE = 4;
    static final int WISHES = 5;
    /** Two twos. */
    static final int TWOS = 6;
    /** A text with a FAULT at 11, which is the FAULT of the latest bakery() already. */
    static final int TEXT = 7;

    private static final int LONGEST = 12;

    private Twins() {
    }

    /** Nothing is as it is at first, and THE IMAGE, the FAULT and THE TRACE are there too. */
    static PieFunnels world() {
        PieFunnels x = new PieFunnels();
        x.bird(0, 1, 2);
        x.bird(3, 4, 5);
        x.bird(5, 6, 7);
        setTo(x, 7, 3, 146, 99);
        x.table(2, 3, 6);
        Checks.fill(x, PIE, 4, 0, 9);
        x.bake(PIE, 0);
        x.image();
        x.bird(1, 2, 9);
        x.bird(4, 8, 11);
        x.bird(6, 3, 13);
        setTo(x, 6, 5, 13, -7);
        x.table(1, 1, 0);
        x.bake(PIE, 3);
        Checks.fillSort(x, SIGNS, 3, 16, 8, 6);
        x.show(A_BIRD, 4);
        Checks.fill(x, NO_PIE, 10, 3);
        Checks.fillSort(x, WISHES, 1, 2, 4, 1);
        Checks.fillSort(x, TWOS, 0, 0, 1, 1, 2);
        Checks.text(x, TEXT, "heat 1;ill 9");
        x.bakery(TEXT);
        x.act(5, 2, 11);
        return x;
    }

    private static void setTo(PieFunnels x, int heat, int state, int troubles, int seed) {
        x.ask(0, heat);
        x.ask(1, state);
        x.ask(2, troubles);
        x.seed(seed);
    }

    static PieFunnels fullWorld() {
        PieFunnels x = world();
        x.bird(2, 2, 2);
        return x;
    }

    /** All but REFUSALS; THE IMAGE is asked for last, since it is seen only when it is restored. */
    static List<Long> all(PieFunnels x) {
        List<Long> out = new ArrayList<>();
        addWhatStands(x, out);
        out.add((long) x.restore());
        addWhatStands(x, out);
        return out;
    }

    private static void addWhatStands(PieFunnels x, List<Long> out) {
        for (int what = 0; what < 8; what++) {
            out.add((long) x.status(what));
        }
        int birds = x.status(0);
        for (int bird = 0; bird < birds; bird++) {
            for (int what = 0; what < 3; what++) {
                out.add((long) x.birdOf(bird, what));
            }
        }
        for (int place = 0; place < 40; place++) {
            out.add((long) x.comes(place / 5, place % 5));
        }
        for (int s = 0; s < 8; s++) {
            int held = x.holds(s);
            out.add((long) held);
            for (int i = 0; i < LONGEST && held >= 100; i++) {
                out.add(x.element(s, i));
            }
        }
        out.add((long) x.fault());
        for (int i = 0; i < 12; i++) {
            out.add((long) x.trace(i));
        }
    }
}
