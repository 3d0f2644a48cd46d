/** The boundary cases that the document names of the BAKERY: HEAT, STATES, TABLE, TROUBLES, BIRDS, PIES, texts. */
public final class BoundsOfBakeryTest {
    private static final int NONE = PieFunnels.NONE;

    private final Checks c = new Checks();
    private final BoundsOfTexts texts = new BoundsOfTexts(c);

    public static void main(String[] args) {
        BoundsOfBakeryTest t = new BoundsOfBakeryTest();
        t.heat();
        t.state();
        t.tableAtFirst();
        t.tableSet();
        t.troubles();
        t.bakesAndSuffered();
        t.birdsHaveNumbers();
        t.noBirds();
        t.kinds();
        t.under();
        t.asAndMouths();
        t.stuffings();
        t.layers();
        t.fromBelow();
        t.texts.all();
        t.c.end();
    }

    private void heat() {
        c.sentence(0, "HEAT (0 to 9; 5 at first).");
        PieFunnels x = new PieFunnels();
        c.asks(x, 5, "status", 1);
        c.asks(x, 5, "ask", 0, 0);
        c.asks(x, -6, "ask", 0, -1);
        c.asks(x, 0, "ask", 0, 9);
        c.asks(x, -6, "ask", 0, 10);
        c.asks(x, 9, "status", 1);
        c.sentence(10, "HEAT (what 0), STATE (1), TROUBLES (2; 0 to 255) becomes v: what it was");
        for (int heat = 0; heat < 10; heat++) {
            c.asks(x, heat == 0 ? 9 : heat - 1, "ask", 0, heat);
            c.asks(x, heat, "status", 1);
        }
        c.asks(x, 0, "status", 2);
        c.asks(x, 0, "status", 3);
    }

    private void state() {
        c.sentence(0, "STATE of the canton (0 to 7; 0 at first).");
        PieFunnels x = new PieFunnels();
        c.asks(x, 0, "status", 2);
        c.asks(x, -6, "ask", 1, 8);
        c.asks(x, -6, "ask", 1, -1);
        for (int state = 1; state < 8; state++) {
            c.asks(x, state - 1, "ask", 1, state);
            c.asks(x, state, "status", 2);
        }
        c.asks(x, 7, "ask", 1, 0);
        c.asks(x, 5, "status", 1);
        c.asks(x, 0, "status", 3);
    }

    private void tableAtFirst() {
        c.sentence(0, "TABLE: for each STATE and each ROOT (0 to 4) the STATE that comes (at first STATE and ROOT "
            + "together, and 1, modulo 8).");
        int[][] due = {{1, 2, 3, 4, 5}, {2, 3, 4, 5, 6}, {3, 4, 5, 6, 7}, {4, 5, 6, 7, 0}, {5, 6, 7, 0, 1},
            {6, 7, 0, 1, 2}, {7, 0, 1, 2, 3}, {0, 1, 2, 3, 4}};
        PieFunnels x = new PieFunnels();
        for (int state = 0; state < 8; state++) {
            for (int root = 0; root < 5; root++) {
                c.asks(x, due[state][root], "comes", state, root);
            }
        }
        c.sentence(12, "What comes by TABLE");
        c.asks(x, 4, "comes", 7, 4);
        c.asks(x, -5, "comes", 8, 0);
        c.asks(x, -5, "comes", 0, 5);
        c.asks(x, -5, "comes", 7, -1);
        c.asks(x, -5, "comes", -1, 4);
    }

    private void tableSet() {
        c.sentence(11, "In TABLE, by a STATE and a ROOT, comes v: what came");
        PieFunnels x = new PieFunnels();
        for (int place = 0; place < 40; place++) {
            c.asks(x, (place / 5 + place % 5 + 1) % 8, "table", place / 5, place % 5, place * 3 % 8);
        }
        for (int place = 0; place < 40; place++) {
            c.asks(x, place * 3 % 8, "comes", place / 5, place % 5);
        }
        c.asks(x, 0, "table", 0, 0, 7);
        c.asks(x, 7, "table", 0, 0, 0);
        c.asks(x, -6, "table", 0, 0, 8);
        c.asks(x, 0, "comes", 0, 0);
    }

    private void troubles() {
        c.sentence(0, "TROUBLES: STATES (bits) that are ill (none at first).");
        PieFunnels x = new PieFunnels();
        c.asks(x, 0, "status", 3);
        x.bird(0, 0, 0);
        x.ask(0, 1);
        Checks.fill(x, 0, 0);
        // one SIGN, 1, of ROOT 1: from each STATE its own place of TABLE
        for (int state = 0; state < 8; state++) {
            x.table(0, 1, state);
            for (int bit = 0; bit < 8; bit++) {
                x.ask(2, 1 << bit);
                c.asks(x, state == bit ? 1 : 0, "brings", 0, 0, 1);
            }
        }
        c.sentence(10, "TROUBLES (2; 0 to 255)");
        c.asks(x, 128, "ask", 2, 255);
        c.asks(x, -6, "ask", 2, 256);
        c.asks(x, 255, "ask", 2, 0);
        c.asks(x, -6, "ask", 2, -1);
        c.asks(x, 0, "status", 3);
    }

    private void bakesAndSuffered() {
        c.sentence(0, "BAKES, SUFFERED (0 at first).");
        PieFunnels x = new PieFunnels();
        c.asks(x, 0, "status", 4);
        c.asks(x, 0, "status", 5);
    }

    private void birdsHaveNumbers() {
        c.sentence(0, "BIRDS have numbers, from 0 on, 7 at most");
        PieFunnels x = new PieFunnels();
        for (int bird = 0; bird < 7; bird++) {
            c.asks(x, -1, "safe", bird);
            c.asks(x, bird, "bird", bird, bird, bird);
            c.asks(x, 100, "safe", bird);
            c.asks(x, bird + 1, "status", 0);
        }
        c.asks(x, -7, "bird", 0, 0, 0);
        c.asks(x, 7, "status", 0);
        c.asks(x, -1, "safe", 7);
        c.sentence(9, "A BIRD: the number");
        PieFunnels y = new PieFunnels();
        c.asks(y, 0, "bird", 6, 9, 19);
        c.asks(y, 1, "bird", 0, 0, 0);
        c.sentence(13, "Of a BIRD: 0 KIND, 1 a, 2 MOUTH");
        c.asks(y, 6, "birdOf", 0, 0);
        c.asks(y, 9, "birdOf", 0, 1);
        c.asks(y, 19, "birdOf", 0, 2);
        for (int what = 0; what < 3; what++) {
            c.asks(y, 0, "birdOf", 1, what);
        }
        c.asks(x, 6, "birdOf", 6, 2);
    }

    private void noBirds() {
        c.sentence(1, "No BIRDS.");
        PieFunnels x = new PieFunnels();
        c.asks(x, 0, "status", 0);
        c.asks(x, -1, "show", 0, 0);
        c.asks(x, -5, "birdOf", 0, 0);
        c.asks(x, -1, "alike", 0, 0);
        c.asks(x, -5, "years", 1);
        c.asks(x, 0, "act", 0, 0, 5);
        c.asks(x, 0, "image");
        c.asks(x, 0, "restore");
    }

    private void kinds() {
        c.sentence(0, "each of a KIND: 0 BIRD; 1 CHIPPED, 2 QUICK, 4 PRICKED, each under BIRD; 3 WIDOW, under CHIPPED; "
            + "5 TWICE, under QUICK; 6 CHILD, under WIDOW");
        PieFunnels x = new PieFunnels();
        c.asks(x, -1, "bird", -1, 0, 0);
        for (int kind = 0; kind < 7; kind++) {
            c.asks(x, kind, "bird", kind, 0, 0);
            c.asks(x, kind, "birdOf", kind, 0);
        }
        c.asks(x, -1, "bird", 7, 0, 0);
    }

    private void under() {
        c.sentence(8, "-12 also a BIRD of another KIND");
        // which KINDS (bits) a BIRD of each KIND may be taken for
        int[] of = {1, 1 | 2, 1 | 4, 1 | 2 | 8, 1 | 16, 1 | 4 | 32, 1 | 2 | 8 | 64};
        for (int kind = 0; kind < 7; kind++) {
            PieFunnels x = new PieFunnels();
            x.bird(kind, 0, 0);
            x.show(7, 0);
            for (int taken = 0; taken < 7; taken++) {
                boolean may = (of[kind] >> taken & 1) == 1;
                c.that(kind + " taken for " + taken + " is " + (may ? "let in" : "refused"),
                    x.says(7, taken) == -12 != may);
            }
        }
    }

    private void asAndMouths() {
        c.sentence(0, "a (0 to 9), MOUTH (0 to 19).");
        PieFunnels x = new PieFunnels();
        c.asks(x, -6, "bird", 0, -1, 0);
        c.asks(x, -6, "bird", 0, 10, 0);
        c.asks(x, -6, "bird", 0, 0, -1);
        c.asks(x, -6, "bird", 0, 0, 20);
        c.asks(x, 0, "bird", 0, 0, 19);
        c.asks(x, 1, "bird", 0, 9, 0);
        c.asks(x, 0, "birdOf", 0, 1);
        c.asks(x, 19, "birdOf", 0, 2);
        c.asks(x, 9, "birdOf", 1, 1);
        c.asks(x, 0, "birdOf", 1, 2);
    }

    /** All calls that take the PIE in SHELF 0, by BIRD 0, a wish in SHELF 1, no twos: 0 where it is let in. */
    private static final String[] OF_PIES = {"said", "brings", "fits", "chance", "minutes", "after", "kings", "tribes",
        "judge", "bake"};
    private static final long[][] ASKED = {{0, 0, NONE}, {0, 0, 1}, {0, 1, 0, 0}, {0, 0, 0, 0}, {0, 0}, {0, 0, 1},
        {0, 0, 0}, {0, 1, NONE}, {0, 1, 0}, {0, 0}};

    private void pie(boolean isOne, int call, long... pie) {
        PieFunnels x = new PieFunnels();
        x.bird(0, 0, 0);
        Checks.fill(x, 1, 0);
        Checks.fill(x, 0, pie);
        StringBuilder told = new StringBuilder(OF_PIES[call]).append(" of");
        for (long stuffing : pie) {
            told.append(' ').append(stuffing);
        }
        long got = Calls.on(x, OF_PIES[call], ASKED[call]);
        c.due("REFUSALS -6 by " + told, x.status(16), isOne ? 0 : 1);
        c.that(told + " answered " + got, (got == -6 || got == -16) != isOne);
    }

    private void stuffings() {
        c.sentence(0, "A PIE: a ROW of STUFFINGS (0 to 9), 0 to 8 layers of them");
        for (int call = 0; call < OF_PIES.length; call++) {
            boolean noneIsLayer = OF_PIES[call].equals("chance");
            for (int place = 0; place < 8; place++) {
                for (long v : new long[] {-2, -1, 0, 9, 10, Integer.MIN_VALUE, Integer.MAX_VALUE}) {
                    long[] pie = {1, 2, 3, 4, 5, 6, 7, 8};
                    pie[place] = v;
                    pie(v >= (noneIsLayer ? -1 : 0) && v <= 9, call, pie);
                }
            }
        }
    }

    private void layers() {
        c.sentence(0, "A PIE: a ROW of STUFFINGS (0 to 9), 0 to 8 layers of them");
        for (int call = 0; call < OF_PIES.length; call++) {
            for (int many : new int[] {0, 1, 8, 9, 16, 160}) {
                boolean none = many == 0 && OF_PIES[call].equals("kings");
                pie(many <= 8 && !none, call, new long[many]);
            }
        }
    }

    private void fromBelow() {
        c.sentence(0, "A PIE: a ROW of STUFFINGS (0 to 9), 0 to 8 layers of them, from below.");
        PieFunnels x = new PieFunnels();
        x.bird(0, 0, 0);
        x.ask(0, 9);
        for (int sort = 0; sort < 4; sort++) {
            Checks.fillSort(x, 0, sort, 0, 1, 2, 3, 4, 5, 6, 9);
            c.asks(x, 8, "said", 0, 0, NONE);
            c.asks(x, 9, "said", 0, 0, 0);
            c.asks(x, 11, "said", 0, 0, 1);
            c.asks(x, 1, "said", 0, 0, 6);
            c.asks(x, 7, "said", 0, 0, 7);
        }
    }
}
