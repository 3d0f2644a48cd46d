/** The boundary cases that the document names of what is asked of a BIRD: SOONEST to ALIKE. */
public final class BoundsOfQuestionsTest {
    private static final int NONE = PieFunnels.NONE;
    private static final int CHIPPED = 1;
    private static final int PRICKED = 4;
    private static final int TWICE = 5;
    private static final int CHILD = 6;

    private final Checks c = new Checks();
    private final BoundsOfMany many = new BoundsOfMany(c);

    public static void main(String[] args) {
        BoundsOfQuestionsTest t = new BoundsOfQuestionsTest();
        t.soonest();
        t.soonestByHeat();
        t.soonestByRows();
        t.safe();
        t.justThoseSaid();
        t.sixteenSaid();
        t.kindsThatFit();
        t.heatsAndMouths();
        t.piesOfNoSigns();
        t.piesFirstByRows();
        t.next();
        t.nextNever();
        t.many.all();
        t.nothingIsChanged();
        t.c.end();
    }

    /** One BIRD, 0, with a 0, MOUTH 0, by a HEAT. */
    static PieFunnels with(int kind, int heat) {
        PieFunnels x = new PieFunnels();
        x.bird(kind, 0, 0);
        x.ask(0, heat);
        return x;
    }

    /** Each SIGN brings the next STATE, up to 7, which stays. */
    static PieFunnels counting(PieFunnels x) {
        for (int state = 0; state < 8; state++) {
            for (int root = 0; root < 5; root++) {
                x.table(state, root, Math.min(state + 1, 7));
            }
        }
        return x;
    }

    /** By one ROOT alone 0 becomes 1, 1 becomes 2, 2 becomes 3; all else becomes 7. */
    static PieFunnels narrow(PieFunnels x, int way) {
        for (int state = 0; state < 8; state++) {
            for (int root = 0; root < 5; root++) {
                x.table(state, root, state < 3 && root == way ? state + 1 : 7);
            }
        }
        return x;
    }

    private void soonest() {
        c.sentence(0, "SOONEST by a BIRD for a STATE: the fewest layers (0 to 3) of a PIE that BRINGS it: how many");
        c.sentence(18, "SOONEST: how many (i NONE; NONE), the i-th");
        PieFunnels x = counting(with(0, 5));
        int[] due = {0, 1, 2, 3, NONE, NONE, NONE, NONE};
        for (int state = 0; state < 8; state++) {
            c.asks(x, due[state], "soonest", 0, state, NONE);
            for (int i = 0; i < 4; i++) {
                c.asks(x, i < due[state] ? 0 : -15, "soonest", 0, state, i);
            }
        }
        x.ask(1, 7);
        for (int state = 0; state < 8; state++) {
            c.asks(x, state == 7 ? 0 : NONE, "soonest", 0, state, NONE);
        }
        c.asks(x, -16, "soonest", 0, 8, NONE);
        c.asks(x, -16, "soonest", 0, -1, NONE);
    }

    private void soonestByHeat() {
        c.sentence(0, "the fewest layers (0 to 3) of a PIE that BRINGS it: how many");
        int[][] due = {{0, NONE, NONE, NONE, NONE}, {0, 1, NONE, NONE, NONE}, {0, 1, 2, NONE, NONE},
            {0, 1, 2, 3, NONE}, {0, 1, 2, 3, NONE}};
        int[] twice = {0, NONE, 1, NONE, 2, NONE, 3, NONE};
        int[] child = {0, 2, NONE, NONE, NONE, NONE, NONE, NONE};
        for (int heat = 0; heat < 5; heat++) {
            PieFunnels x = counting(with(0, heat));
            for (int state = 0; state < 5; state++) {
                c.asks(x, due[heat][state], "soonest", 0, state, NONE);
            }
        }
        for (int state = 0; state < 8; state++) {
            c.asks(counting(with(TWICE, 9)), twice[state], "soonest", 0, state, NONE);
            c.asks(counting(with(CHILD, 9)), child[state], "soonest", 0, state, NONE);
        }
    }

    private void soonestByRows() {
        c.sentence(0, "the i-th STUFFING, of several the first by rows; NONE.");
        // by HEAT 5 the ROOTS of the STUFFINGS 0 to 4 are 0 2 4 1 3, and so are those of 5 to 9
        int[] first = {0, 3, 1, 4, 2};
        for (int root = 0; root < 5; root++) {
            PieFunnels x = narrow(with(0, 5), root);
            c.asks(x, 3, "soonest", 0, 3, NONE);
            for (int i = 0; i < 3; i++) {
                c.asks(x, first[root], "soonest", 0, 3, i);
            }
            c.asks(x, -15, "soonest", 0, 3, 3);
            c.asks(x, NONE, "soonest", 0, 4, NONE);
            c.asks(x, -15, "soonest", 0, 4, 0);
        }
        // 1 from 0 by two ROOTS of two STUFFINGS each: 4 4, 4 9, .. are behind 0 2, 2 0
        PieFunnels x = with(0, 5);
        c.asks(x, 0, "soonest", 0, 6, 0);
        c.asks(x, 2, "soonest", 0, 6, 1);
        c.asks(x, -15, "soonest", 0, 6, 2);
    }

    private void safe() {
        c.sentence(0, "SAFE by a BIRD: how many PIES of 2 layers (of 100) bring no ILLS.");
        c.sentence(19, "SAFE");
        c.asks(with(0, 5), 100, "safe", 0);
        PieFunnels x = narrow(with(0, 5), 3);
        x.ask(2, 128);
        c.asks(x, 4, "safe", 0);
        x.ask(2, 128 | 2);
        c.asks(x, 0, "safe", 0);
        x.ask(2, 1 << 1);
        c.asks(x, 80, "safe", 0);
        x.ask(2, 1 << 2);
        c.asks(x, 96, "safe", 0);
        x.ask(2, 1 << 3);
        c.asks(x, 100, "safe", 0);
        x.ask(2, 255);
        c.asks(x, 0, "safe", 0);
        x.ask(0, 0);
        c.asks(x, 100, "safe", 0);
        x.ask(0, 1);
        x.ask(2, 1 << 2);
        c.asks(x, 100, "safe", 0);
    }

    private void justThoseSaid() {
        c.sentence(0, "By a told ROW of SIGNS (just those SAID)");
        PieFunnels x = with(0, 9);
        Checks.fill(x, 0, 0, 1, 2);
        x.row(2, 2, 0);
        // BIRD says 9 11 13, and so does PRICKED; CHIPPED says 10 first
        long[][] told = {{9, 11}, {9, 11, 13, 15}, {9, 11, 13, 0}, {9, 11, 14}, {8, 11, 13}, {11, 9, 13}, {},
            {9, 11, 33}, {9, 11, -7}, {9, 11, 13 + (1L << 31)}, {0, 9, 11, 13}, {9, 12, 13}};
        for (long[] one : told) {
            Checks.fillSort(x, 1, 3, one);
            for (int what = 0; what < 3; what++) {
                c.asks(x, one.length == 0 && what == 1 ? 1 : 0, "fits", 0, 1, 0, what);
            }
            c.asks(x, one.length == 3 && one[0] == 11 ? 1 : 0, "pies", 1, 0, 3, NONE);
        }
        x.row(1, 2, 160);
        Checks.fill(x, 3, 9, 11, 13);
        x.copy(3, 1, 0, 0, 3);
        c.asks(x, 0, "fits", 0, 1, 0, 0);
        c.asks(x, 0, "pies", 1, 0, 3, NONE);
        c.sentence(20, "KINDS (what 0), HEATS (1), MOUTHS (2) by the PIE in SHELF s and the SIGNS in SHELF p (the whole "
            + "ROWS)");
        c.asks(x, 1 | 16, "fits", 0, 3, 0, 0);
        c.asks(x, 1 << 9, "fits", 0, 3, 0, 1);
        c.asks(x, 1, "fits", 0, 3, 0, 2);
        c.asks(x, 1, "pies", 3, 0, 3, NONE);
    }

    private void sixteenSaid() {
        c.sentence(0, "By a told ROW of SIGNS (just those SAID)");
        PieFunnels x = with(TWICE, 9);
        Checks.fill(x, 0, 0, 1, 2, 3, 4, 5, 6, 7);
        Checks.fill(x, 1, 3, 3, 1, 1, 19, 19, 17, 17, 15, 15, 13, 13, 11, 11, 9, 9);
        c.asks(x, 1 << TWICE, "fits", 0, 1, 0, 0);
        c.asks(x, 1 << 9, "fits", 0, 1, 0, 1);
        c.asks(x, 1, "fits", 0, 1, 0, 2);
        x.set(1, 15, 8);
        c.asks(x, 0, "fits", 0, 1, 0, 0);
        Checks.fill(x, 1, 3, 3, 1, 1, 19, 19, 17, 17, 15, 15, 13, 13, 11, 11, 9, 9, 9);
        c.asks(x, 0, "fits", 0, 1, 0, 0);
        Checks.fill(x, 1, 3, 3, 1, 1, 19, 19, 17, 17, 15, 15, 13, 13, 11, 11, 9);
        c.asks(x, 0, "fits", 0, 1, 0, 0);
    }

    private void kindsThatFit() {
        c.sentence(0, "KINDS (bits), HEATS (bits 0 to 9), MOUTHS (bits 0 to 19) of a BIRD that fit for a told PIE, all "
            + "else as it is");
        PieFunnels x = with(0, 1);
        x.row(1, 2, 0);
        x.row(2, 2, 0);
        c.asks(x, 127, "fits", 1, 2, 0, 0);
        Checks.fill(x, 1, 0);
        c.asks(x, 1 << CHILD, "fits", 1, 2, 0, 0);
        Checks.fill(x, 2, 1);
        c.asks(x, 1 | 2 | 4 | 8 | 16, "fits", 1, 2, 0, 0);
        Checks.fill(x, 2, 1, 1);
        c.asks(x, 1 << TWICE, "fits", 1, 2, 0, 0);
        Checks.fill(x, 2, 2);
        c.asks(x, 0, "fits", 1, 2, 0, 0);
        Checks.fill(x, 1, 1);
        Checks.fill(x, 2, 4);
        // 3 is said, and CHIPPED's 4
        c.asks(x, 2 | 8, "fits", 1, 2, 0, 0);
    }

    private void heatsAndMouths() {
        c.sentence(0, "HEATS (bits 0 to 9), MOUTHS (bits 0 to 19) of a BIRD that fit for a told PIE");
        PieFunnels x = with(0, 1);
        Checks.fill(x, 0, 0);
        Checks.fill(x, 1, 0);
        x.row(2, 2, 0);
        c.asks(x, 1, "fits", 0, 2, 0, 1);
        c.asks(x, 0, "fits", 0, 2, 0, 2);
        c.asks(x, 0, "fits", 0, 1, 0, 1);
        for (int heat = 1; heat < 10; heat++) {
            x.set(1, 0, heat);
            c.asks(x, 1 << heat, "fits", 0, 1, 0, 1);
        }
        for (int mouth = 0; mouth < 20; mouth++) {
            x.set(1, 0, (mouth + 1) % 20);
            c.asks(x, 1 << mouth, "fits", 0, 1, 0, 2);
        }
        c.asks(x, 1023, "fits", 2, 2, 0, 1);
        c.asks(x, (1 << 20) - 1, "fits", 2, 2, 0, 2);
        c.asks(x, 1, "status", 1);
        c.asks(x, 0, "birdOf", 0, 2);
    }

    private void piesOfNoSigns() {
        c.sentence(0, "of PIES of k layers (0 to 3): how many fit; the first of them by rows, the i-th STUFFING.");
        PieFunnels x = with(0, 0);
        x.row(0, 2, 0);
        int[] all = {1, 10, 100, 1000};
        for (int k = 0; k < 4; k++) {
            c.asks(x, all[k], "pies", 0, 0, k, NONE);
            for (int i = 0; i < 4; i++) {
                c.asks(x, i < k ? 0 : -15, "pies", 0, 0, k, i);
            }
        }
        c.asks(x, -16, "pies", 0, 0, 4, NONE);
        c.asks(x, -16, "pies", 0, 0, -1, NONE);
        x.ask(0, 1);
        c.asks(x, 1, "pies", 0, 0, 0, NONE);
        for (int k = 1; k < 4; k++) {
            c.asks(x, 0, "pies", 0, 0, k, NONE);
            c.asks(x, NONE, "pies", 0, 0, k, k - 1);
        }
    }

    private void piesFirstByRows() {
        c.sentence(21, "PIES of k layers by the SIGNS in SHELF p: how many (i NONE), the first one's i-th (0 to k less "
            + "1; NONE: there is none)");
        PieFunnels x = with(0, 5);
        // 2 * 9 + 5 is 3, by one STUFFING alone
        Checks.fill(x, 0, 3, 3, 3);
        int[] due = {0, 0, 0, 1};
        for (int k = 0; k < 4; k++) {
            c.asks(x, due[k], "pies", 0, 0, k, NONE);
            for (int i = 0; i < k; i++) {
                c.asks(x, k == 3 ? 9 : NONE, "pies", 0, 0, k, i);
            }
            c.asks(x, -15, "pies", 0, 0, k, k);
            c.asks(x, -15, "pies", 0, 0, k, -2);
        }
        x.ask(0, 2);
        Checks.fill(x, 0, 0, 18);
        int[] first = {9, 8, 0};
        c.asks(x, 10, "pies", 0, 0, 3, NONE);
        for (int i = 0; i < 3; i++) {
            c.asks(x, first[i], "pies", 0, 0, 3, i);
        }
        PieFunnels y = with(PRICKED, 5);
        Checks.fill(y, 0, 3, 5, 7);
        // 9 0 1 in any order
        int[] least = {0, 1, 9};
        c.asks(y, 6, "pies", 0, 0, 3, NONE);
        for (int i = 0; i < 3; i++) {
            c.asks(y, least[i], "pies", 0, 0, 3, i);
        }
    }

    private void next() {
        c.sentence(0, "NEXT: the STUFFING which as a PIE of one layer parts those KINDS of it (all seven) best by what is "
            + "SAID: in the worst case fewest are left, of several the first; NONE: it never parts them.");
        c.sentence(22, "NEXT; NONE");
        // A SIGN that is a multiple of 3 leaves BIRD, QUICK, PRICKED together, any other one CHIPPED too: by the SIGN of
        // STUFFING 0, how many STUFFINGS there are ahead of the first multiple
        int[] due = {0, 1, 2, 0, 1, 2, 0, 1, 2, 0, 1, 2, 0, 1, 2, 0, 1, 3, 0, 2};
        for (int a = 0; a < 10; a++) {
            for (int kind = 0; kind < 7; kind++) {
                PieFunnels x = new PieFunnels();
                x.ask(0, 9);
                int sign = (7 * a + 3 * kind) % 20;
                x.bird(kind, a, (sign + 11) % 20);
                c.asks(x, due[sign], "next", 0);
            }
        }
        for (int sign = 0; sign < 20; sign++) {
            PieFunnels x = new PieFunnels();
            x.ask(0, 1);
            x.bird(CHIPPED, 0, (sign + 19) % 20);
            c.asks(x, due[sign], "next", 0);
        }
    }

    private void nextNever() {
        c.sentence(22, "NEXT; NONE");
        for (int kind = 0; kind < 7; kind++) {
            c.asks(with(kind, 0), NONE, "next", 0);
            c.that("by HEAT 1 it parts them", with(kind, 1).next(0) >= 0);
        }
    }

    private void nothingIsChanged() {
        c.sentence(0, "3. WHAT COMES OF IT (nothing is changed)");
        String[] calls = {"soonest", "soonest", "safe", "fits", "fits", "fits", "pies", "pies", "next", "chance", "chance",
            "minutes", "after", "kings", "kings", "tribes", "tribes", "alike", "judge", "said", "said", "brings", "brings",
            "says", "comes", "birdOf", "element", "holds", "fault", "trace", "status"};
        long[][] arguments = {{3, 7, NONE}, {0, 3, 0}, {5}, {0, 1, 0, 0}, {0, 1, 0, 1}, {0, 1, 0, 2}, {1, 0, 3, NONE},
            {1, 0, 3, 2}, {4}, {0, 5, 1, 0}, {0, 5, 1, 1}, {0, 2}, {0, 3, 40}, {0, 2, 0}, {0, 2, 1}, {0, 5, NONE},
            {0, 5, 2}, {0, 1}, {0, 6, 2}, {0, 5, NONE}, {0, 5, 0}, {0, 2, 0}, {0, 2, 1},
            {2, 4}, {7, 4}, {5, 2}, {1, 0}, {2}, {}, {3}, {14}};
        for (int i = 0; i < calls.length; i++) {
            PieFunnels x = Twins.world();
            PieFunnels twin = Twins.world();
            String told = Calls.told(calls[i], arguments[i]);
            long got = Calls.on(x, calls[i], arguments[i]);
            c.that(told + " is not refused: " + got, got >= NONE);
            c.due(told + " again", Calls.on(x, calls[i], arguments[i]), got);
            for (int what = 11; what < 18; what++) {
                c.due("status(" + what + ") behind " + told, x.status(what), twin.status(what));
            }
            c.that("nothing is changed by " + told, Twins.all(x).equals(Twins.all(twin)));
        }
    }
}
