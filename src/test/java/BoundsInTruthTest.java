/** The boundary cases that the document names of bakes in truth, of SHELVES, MOVES, THE IMAGE, and what is counted. */
public final class BoundsInTruthTest {
    private static final int NONE = PieFunnels.NONE;
    private static final int MIN = Integer.MIN_VALUE;
    private static final int MAX = Integer.MAX_VALUE;

    private final Checks c = new Checks();
    private final BoundsOfMoves moves = new BoundsOfMoves(c);

    public static void main(String[] args) {
        BoundsInTruthTest t = new BoundsInTruthTest();
        t.shelves();
        t.sizes();
        t.zeroAtFirst();
        t.lowestBits();
        t.elementsThatArentThere();
        t.copyEnds();
        t.copyAsTheyWereAhead();
        t.show();
        t.holds();
        t.readAsInts();
        t.bake();
        t.years();
        t.yearsByDraws();
        t.yearsOneByOne();
        t.seed();
        t.moves.all();
        t.image();
        t.imageIsOfAllBut();
        t.restoreShelves();
        t.status();
        t.c.end();
    }

    private void shelves() {
        c.sentence(0, "SHELVES 0 to 7 hold NOTHING (at first), a ROW, or a BIRD.");
        PieFunnels x = new PieFunnels();
        x.bird(0, 0, 0);
        for (int s = -1; s < 9; s++) {
            boolean is = s >= 0 && s < 8;
            c.asks(x, NONE, "holds", s);
            c.asks(x, is ? -3 : -1, "set", s, 0, 0);
            c.asks(x, is ? 1 : -1, "row", s, 1, 1);
            c.asks(x, is ? 101 : NONE, "holds", s);
            c.asks(x, is ? 1 : -1, "show", s, 0);
            c.asks(x, is ? 0 : NONE, "holds", s);
            c.asks(x, is ? -2 : -1, "set", s, 0, 0);
            c.asks(x, is ? 0 : -1, "show", s, NONE);
            c.asks(x, is ? -3 : -1, "set", s, 0, 0);
        }
    }

    private void sizes() {
        c.sentence(0, "A ROW has a SORT (0 bytes, 1 shorts, 2 ints, 3 longs) and 0 to 160 elements");
        c.sentence(2, "SHELF s holds a new ROW: 1");
        PieFunnels x = new PieFunnels();
        for (int sort = 0; sort < 4; sort++) {
            for (int n : new int[] {0, 1, 159, 160}) {
                c.asks(x, 1, "row", sort, sort, n);
                c.asks(x, 100 + sort, "holds", sort);
                c.asks(x, -5, "set", sort, n, 1);
                c.asks(x, n == 0 ? -5 : 1, "set", sort, n - 1, 1);
                c.asks(x, n == 0 ? 0 : 1, "element", sort, n - 1);
            }
            c.asks(x, -7, "row", sort, sort, 161);
            c.asks(x, 1, "element", sort, 159);
        }
        c.asks(x, -6, "row", 0, 4, 1);
        c.asks(x, -6, "row", 0, -1, 1);
        c.asks(x, -4, "row", 0, 0, -1);
    }

    private void zeroAtFirst() {
        c.sentence(0, "0 to 160 elements, 0 at first");
        PieFunnels x = new PieFunnels();
        x.bird(0, 0, 0);
        int[] places = {0, 1, 80, 158, 159};
        for (int sort = 0; sort < 4; sort++) {
            x.row(7, 3, 160);
            for (int i : places) {
                c.asks(x, 0, "element", 7, i);
                x.set(7, i, -1);
            }
            x.row(7, sort, 160);
            for (int i : places) {
                c.asks(x, 0, "element", 7, i);
                x.set(7, i, -1);
            }
            // what was there is not there again when a lesser ROW, a BIRD, NOTHING stood there
            x.row(7, sort, 1);
            x.show(7, 0);
            x.show(7, NONE);
            x.row(7, sort, 160);
            for (int i : places) {
                c.asks(x, 0, "element", 7, i);
                x.set(7, i, -1);
            }
        }
    }

    private void lowestBits() {
        c.sentence(0, "what is put in keeps its lowest bits.");
        c.sentence(3, "Element i of the ROW becomes v: 1");
        PieFunnels x = new PieFunnels();
        long[] put = {127, 128, 255, 256, -128, -129, 32767, 32768, 65535, 65536, -32769, MAX, 1L << 31,
            (1L << 32) - 1, 1L << 32, (long) MIN - 1, Long.MAX_VALUE, Long.MIN_VALUE};
        long[][] due = {
            {127, -128, -1, 0, -128, 127, -1, 0, -1, 0, -1, -1, 0, -1, 0, -1, -1, 0},
            {127, 128, 255, 256, -128, -129, 32767, -32768, -1, 0, 32767, -1, 0, -1, 0, -1, -1, 0},
            {127, 128, 255, 256, -128, -129, 32767, 32768, 65535, 65536, -32769, MAX, MIN, -1, 0, MAX, -1, 0},
            put};
        for (int sort = 0; sort < 4; sort++) {
            x.row(sort, sort, 3);
            for (int i = 0; i < put.length; i++) {
                c.asks(x, 1, "set", sort, 1, put[i]);
                c.asks(x, due[sort][i], "element", sort, 1);
            }
            c.asks(x, 0, "element", sort, 0);
            c.asks(x, 0, "element", sort, 2);
        }
    }

    private void elementsThatArentThere() {
        c.sentence(5, "Element i of the ROW; 0 if there is none (nothing is refused)");
        PieFunnels x = new PieFunnels();
        x.bird(0, 0, 0);
        Checks.fillSort(x, 0, 3, Long.MIN_VALUE, Long.MAX_VALUE);
        x.show(1, 0);
        c.asks(x, Long.MIN_VALUE, "element", 0, 0);
        c.asks(x, Long.MAX_VALUE, "element", 0, 1);
        long[][] none = {{0, 2}, {0, -1}, {0, MIN}, {0, MAX}, {0, 160}, {1, 0}, {2, 0}, {-1, 0}, {8, 0}};
        for (long[] one : none) {
            c.asks(x, 0, "element", one);
        }
        // where a greater ROW, a ROW at all, stood there is none now
        x.row(0, 3, 1);
        c.asks(x, 0, "element", 0, 1);
        x.set(0, 0, 5);
        x.row(0, 3, 0);
        c.asks(x, 0, "element", 0, 0);
        x.row(0, 3, 1);
        x.set(0, 0, 5);
        x.show(0, 0);
        c.asks(x, 0, "element", 0, 0);
        x.row(0, 3, 1);
        x.set(0, 0, 5);
        x.show(0, NONE);
        c.asks(x, 0, "element", 0, 0);
        for (int what = 11; what < 18; what++) {
            c.asks(x, 0, "status", what);
        }
    }

    private void copyEnds() {
        c.sentence(4, "-5 i or j below 0, or an end that isn't there");
        PieFunnels x = new PieFunnels();
        x.row(0, 1, 3);
        x.row(1, 1, 2);
        for (int i = -1; i < 5; i++) {
            for (int j = -1; j < 4; j++) {
                for (int n = 0; n < 5; n++) {
                    boolean may = i >= 0 && j >= 0 && i + n <= 3 && j + n <= 2;
                    c.asks(x, may ? 1 : -5, "copy", 0, 1, i, j, n);
                }
            }
        }
        x.row(0, 1, 160);
        x.row(1, 1, 160);
        x.set(0, 0, 7);
        x.set(0, 159, 8);
        c.asks(x, 1, "copy", 0, 1, 0, 0, 160);
        c.asks(x, 7, "element", 1, 0);
        c.asks(x, 8, "element", 1, 159);
        c.asks(x, -5, "copy", 0, 1, 0, 0, 161);
        c.asks(x, -5, "copy", 0, 1, 160, 0, 1);
        c.asks(x, 1, "copy", 0, 1, 160, 160, 0);
        c.asks(x, -5, "copy", 0, 1, MAX, 0, 1);
        c.asks(x, -5, "copy", 0, 1, 0, MAX, 1);
        c.asks(x, -5, "copy", 0, 1, 1, 1, MAX);
        x.row(2, 1, 0);
        c.asks(x, 1, "copy", 2, 2, 0, 0, 0);
        c.asks(x, -5, "copy", 2, 2, 0, 0, 1);
    }

    private void copyAsTheyWereAhead() {
        c.sentence(4, "Elements i, i + 1, .. of the ROW in SHELF p, n of them, come to elements j, j + 1, .. of that in q "
            + "(as they were ahead): 1");
        for (int sort = 0; sort < 4; sort++) {
            for (int from = 0; from < 4; from++) {
                for (int to = 0; to < 4; to++) {
                    PieFunnels x = Checks.fillSort(new PieFunnels(), 3, sort, 1, 2, 3, 4, 5, 6);
                    c.asks(x, 1, "copy", 3, 3, from, to, 3);
                    for (int i = 0; i < 6; i++) {
                        boolean came = i >= to && i < to + 3;
                        c.asks(x, came ? from + i - to + 1 : i + 1, "element", 3, i);
                    }
                }
            }
        }
        PieFunnels x = Checks.fillSort(new PieFunnels(), 0, 3, Long.MIN_VALUE + 1, 2);
        x.row(7, 3, 3);
        c.asks(x, 1, "copy", 0, 7, 0, 2, 1);
        c.asks(x, Long.MIN_VALUE + 1, "element", 7, 2);
        c.asks(x, 0, "element", 7, 1);
        c.asks(x, Long.MIN_VALUE + 1, "element", 0, 0);
        c.asks(x, 1, "copy", 0, 7, 1, 2, 0);
        c.asks(x, Long.MIN_VALUE + 1, "element", 7, 2);
    }

    private void show() {
        c.sentence(6, "SHELF s holds a BIRD, or NOTHING (bird NONE): 1, 0");
        PieFunnels x = new PieFunnels();
        for (int bird = 0; bird < 7; bird++) {
            c.asks(x, -1, "show", 0, bird);
            c.asks(x, NONE, "holds", 0);
            x.bird(0, 0, 0);
        }
        for (int bird = 0; bird < 7; bird++) {
            c.asks(x, 1, "show", 7, bird);
            c.asks(x, bird, "holds", 7);
        }
        c.asks(x, -1, "show", 7, 7);
        c.asks(x, -1, "show", 7, -2);
        c.asks(x, 6, "holds", 7);
        c.asks(x, 0, "show", 7, NONE);
        c.asks(x, 0, "show", 7, NONE);
        c.asks(x, NONE, "holds", 7);
        x.row(7, 0, 1);
        c.asks(x, 0, "show", 7, NONE);
        c.asks(x, NONE, "holds", 7);
    }

    private void holds() {
        c.sentence(7, "What SHELF s holds: NONE NOTHING, or no such SHELF; a BIRD's number; 100 and the SORT of a ROW");
        PieFunnels x = new PieFunnels();
        for (int bird = 0; bird < 7; bird++) {
            x.bird(0, 0, 0);
            x.show(bird, bird);
        }
        for (int s = -1; s < 9; s++) {
            c.asks(x, s < 7 ? s : NONE, "holds", s);
        }
        for (int sort = 0; sort < 4; sort++) {
            x.row(sort, sort, 160 * (sort % 2));
            c.asks(x, 100 + sort, "holds", sort);
        }
        c.asks(x, NONE, "holds", MIN);
        c.asks(x, NONE, "holds", MAX);
        c.asks(x, 0, "status", 11);
    }

    private void readAsInts() {
        c.sentence(0, "All is read as ints (of longs the lowest 32 bits).");
        PieFunnels x = new PieFunnels();
        x.bird(0, 0, 0);
        long far = 1L << 32;
        // HEAT 5: SIGNS 5 and 3, and 0 brings 1, then 5
        Checks.fillSort(x, 0, 3, far, 9 - far);
        c.asks(x, 3, "said", 0, 0, 1);
        c.asks(x, 5, "brings", 0, 0, 0);
        Checks.fillSort(x, 1, 3, 5 + far, 3 - far);
        c.asks(x, 1, "fits", 0, 1, 0, 2);
        c.asks(x, 1, "pies", 1, 0, 2, NONE);
        Checks.fillSort(x, 2, 3, 5 + far, 4 + far);
        c.asks(x, 1, "tribes", 0, 2, NONE);
        Checks.fillSort(x, 3, 3, far, 5 - far);
        c.asks(x, NONE, "judge", 0, 3, 1);
        Checks.fillSort(x, 4, 3, far - 1, 9);
        c.asks(x, 200000, "chance", 4, 0, 5, 0);
        // in bytes 256 is 0, and 250 is -6; in shorts 65536 is 0
        Checks.fillSort(x, 5, 0, 256, 9);
        c.asks(x, 3, "said", 5, 0, 1);
        Checks.fillSort(x, 5, 0, 250, 9);
        c.asks(x, -6, "said", 5, 0, 1);
        Checks.fillSort(x, 5, 1, 256, 9);
        c.asks(x, -6, "said", 5, 0, 1);
        Checks.fillSort(x, 5, 1, 65536, 9);
        c.asks(x, 3, "said", 5, 0, 1);
        Checks.fillSort(x, 5, 3, 1L << 31, 9);
        c.asks(x, -6, "said", 5, 0, 1);
    }

    private void bake() {
        c.sentence(0, "IN TRUTH: a BAKE: STATE, BAKES 1 more, SUFFERED its ILLS more.");
        c.sentence(30, "A BAKE in truth: STATE");
        PieFunnels x = new PieFunnels();
        x.bird(0, 0, 0);
        x.row(0, 2, 0);
        x.ask(2, 255);
        c.asks(x, 0, "bake", 0, 0);
        c.asks(x, 1, "status", 4);
        c.asks(x, 0, "status", 5);
        // SIGN 5 by HEAT 5: each time the next STATE, and behind 7 comes 0
        Checks.fill(x, 0, 0);
        x.ask(2, 1 << 7 | 1);
        for (int time = 1; time < 17; time++) {
            c.asks(x, time % 8, "bake", 0, 0);
            c.asks(x, time + 1, "status", 4);
            c.asks(x, time < 7 ? 0 : time < 8 ? 1 : time < 15 ? 2 : time < 16 ? 3 : 4, "status", 5);
            c.asks(x, time % 8, "status", 2);
        }
        c.asks(x, 5, "status", 1);
        c.asks(x, 1, "status", 6);
    }

    private void years() {
        c.sentence(31, "YEARS by draws, n (1 to 60): SUFFERED");
        PieFunnels x = new PieFunnels();
        c.asks(x, -5, "years", 1);
        x.bird(0, 0, 0);
        c.asks(x, -6, "years", 0);
        c.asks(x, -6, "years", 61);
        c.asks(x, 0, "status", 4);
        c.asks(x, 0, "years", 1);
        c.asks(x, 1, "status", 4);
        c.asks(x, 0, "years", 60);
        c.asks(x, 61, "status", 4);
        x.ask(2, 255);
        int suffered = x.years(60);
        c.that("each of some SIGNS is ill", suffered > 60 && suffered <= 180);
        c.due("SUFFERED", x.status(5), suffered);
        c.that("SUFFERED is of all YEARS", x.years(60) > suffered);
    }

    private void yearsByDraws() {
        c.sentence(0, "YEARS by draws, n times: a BIRD (a DRAW below how many), a DRAW below 10 as HEAT, a PIE of three "
            + "layers, each a DRAW below 10; a BAKE.");
        c.sentence(0, "A DRAW below n: SEED (1 at first) becomes SEED times 1103515245, and 12345 (an int, wrapping); its "
            + "upper 16 bits, no sign, modulo n.");
        // SEED ahead; BIRD; HEAT; STATE that comes; ILLS; SEED behind
        int[][] due = {
            // 0 54236 42756 54885 3498: SIGNS 18 16 2 by MOUTH 0
            {0, 0, 6, 1, 3, 229283573},
            // 33676 22817 43007 45682 58605: SIGNS 7 17 3 by MOUTH 6; the sign bit is set in the first
            {2, 6, 7, 2, 3, -454219921},
            // 50515 7107 10365 41080 53390: SIGNS 0 10 10 by MOUTH 3
            {3, 3, 7, 3, 3, -795971668},
            // 32768 21468 9988 22117 36266: SIGNS 5 3 1 by MOUTH 1
            {MIN, 1, 8, 7, 3, -1918200075},
            // 35494 25515 43510 27276 37746: SIGNS 9 1 1 by MOUTH 4
            {6, 4, 5, 1, 3, -1821226909},
            // 52332 9806 ..: by HEAT 6 and MOUTH 0: SIGNS 2 14 8
            {7, 0, 6, 4, 3, 2131988640}};
        for (int[] one : due) {
            PieFunnels x = new PieFunnels();
            for (int mouth = 0; mouth < 7; mouth++) {
                x.bird(0, 0, mouth);
            }
            x.ask(2, 255);
            x.seed(one[0]);
            c.asks(x, one[4], "years", 1);
            c.asks(x, one[2], "status", 1);
            c.asks(x, one[3], "status", 2);
            c.asks(x, 1, "status", 4);
            c.asks(x, one[4], "status", 5);
            c.asks(x, one[5], "status", 6);
        }
    }

    private void yearsOneByOne() {
        c.sentence(0, "YEARS by draws, n times");
        for (int birds = 1; birds < 8; birds++) {
            PieFunnels x = new PieFunnels();
            PieFunnels y = new PieFunnels();
            for (int kind = 0; kind < birds; kind++) {
                x.bird(kind, kind, 2 * kind);
                y.bird(kind, kind, 2 * kind);
            }
            x.ask(2, 170);
            y.ask(2, 170);
            int last = 0;
            for (int n = 0; n < 60; n++) {
                last = y.years(1);
            }
            c.asks(x, last, "years", 60);
            for (int what = 0; what < 7; what++) {
                c.due("status(" + what + ")", x.status(what), y.status(what));
            }
        }
    }

    private void seed() {
        c.sentence(32, "SEED becomes v: what it was (nothing is refused)");
        PieFunnels x = new PieFunnels();
        int[] seeds = {MIN, -1, 0, 1, MAX, 12345};
        int was = 1;
        for (int seed : seeds) {
            c.asks(x, was, "seed", seed);
            c.asks(x, seed, "status", 6);
            was = seed;
        }
        for (int what = 11; what < 18; what++) {
            c.asks(x, 0, "status", what);
        }
    }

    private void image() {
        c.sentence(35, "THE IMAGE of all but SHELVES (and THE IMAGE, REFUSALS, the FAULT, THE TRACE) is taken: how many "
            + "BIRDS");
        c.sentence(36, "-6 there is none");
        PieFunnels x = new PieFunnels();
        c.asks(x, -6, "restore");
        c.asks(x, -6, "restore");
        c.asks(x, 0, "image");
        c.asks(x, 0, "restore");
        for (int birds = 1; birds < 8; birds++) {
            x.bird(birds - 1, birds, birds);
            c.asks(x, birds, "image");
        }
        c.asks(x, -7, "bird", 0, 0, 0);
        c.sentence(36, "All is as THE IMAGE has it; SHELVES with BIRDS hold those of these numbers, or NOTHING: how many "
            + "BIRDS");
        c.asks(x, 7, "restore");
        c.asks(x, 7, "restore");
        c.asks(x, -7, "bird", 0, 0, 0);
        c.asks(x, 2, "status", 16);
    }

    private void imageIsOfAllBut() {
        c.sentence(35, "THE IMAGE of all but SHELVES (and THE IMAGE, REFUSALS, the FAULT, THE TRACE) is taken");
        PieFunnels x = new PieFunnels();
        x.bird(3, 4, 5);
        x.image();
        x.ask(0, 9);
        x.ask(1, 7);
        x.ask(2, 255);
        x.seed(9);
        x.table(0, 0, 0);
        x.table(7, 4, 0);
        Checks.text(x, 0, "ill 1;x");
        x.bakery(0);
        x.act(0, 0, 1);
        Checks.fill(x, 1, 1, 2);
        x.bake(1, 0);
        x.row(8, 0, 0);
        // all that THE IMAGE is not of stays
        c.asks(x, 1, "restore");
        int[] due = {1, 5, 0, 0, 0, 0, 1, 3};
        for (int what = 0; what < 8; what++) {
            c.asks(x, due[what], "status", what);
        }
        c.asks(x, 1, "comes", 0, 0);
        c.asks(x, 4, "comes", 7, 4);
        c.asks(x, 6, "fault");
        c.asks(x, 40, "trace", 0);
        c.asks(x, 1, "status", 11);
        c.asks(x, 1, "status", 16);
        c.asks(x, 2, "element", 1, 1);
        c.asks(x, 101, "holds", 0);
        // and it is there still
        x.ask(0, 1);
        c.asks(x, 1, "restore");
        c.asks(x, 5, "status", 1);
    }

    private void restoreShelves() {
        c.sentence(36, "All is as THE IMAGE has it; SHELVES with BIRDS hold those of these numbers, or NOTHING");
        for (int kept = 0; kept < 8; kept++) {
            PieFunnels x = new PieFunnels();
            for (int bird = 0; bird < kept; bird++) {
                x.bird(bird, 1, bird);
            }
            x.image();
            for (int bird = kept; bird < 7; bird++) {
                x.bird(bird, 2, bird);
            }
            for (int s = 0; s < 7; s++) {
                x.show(s, s);
            }
            x.show(7, 6);
            c.asks(x, kept, "restore");
            for (int s = 0; s < 7; s++) {
                c.asks(x, s < kept ? s : NONE, "holds", s);
                c.asks(x, s < kept ? s : -13, "says", s, 0);
            }
            c.asks(x, kept == 7 ? 6 : NONE, "holds", 7);
            x.row(7, 3, 4);
            c.asks(x, kept, "restore");
            c.asks(x, 103, "holds", 7);
            // a new BIRD of such a number comes to no SHELF
            if (kept < 7) {
                c.asks(x, kept, "bird", 0, 0, 0);
                c.asks(x, NONE, "holds", kept);
            }
        }
    }

    private void status() {
        c.sentence(37, "How many: 0 BIRDS, 1 HEAT, 2 STATE, 3 TROUBLES (bits), 4 BAKES, 5 SUFFERED, 6 SEED, 7 bodies that "
            + "ran in the latest act() (all, kept or not)");
        PieFunnels x = new PieFunnels();
        int[] first = {0, 5, 0, 0, 0, 0, 1, 0};
        for (int what = 0; what < 8; what++) {
            c.asks(x, first[what], "status", what);
        }
        c.sentence(37, "11 to 17: REFUSALS -1 to -7");
        for (int what = 11; what < 18; what++) {
            c.asks(x, 0, "status", what);
        }
        c.sentence(37, "NONE for another what");
        for (int what : new int[] {-1, 8, 9, 10, 18, 19, MIN, MAX}) {
            c.asks(x, NONE, "status", what);
        }
    }
}
