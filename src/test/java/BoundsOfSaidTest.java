/** The boundary cases that the document names of what is SAID, what it BRINGS, and its ILLS. */
public final class BoundsOfSaidTest {
    private static final int NONE = PieFunnels.NONE;
    private static final int BIRD = 0;
    private static final int CHIPPED = 1;
    private static final int QUICK = 2;
    private static final int WIDOW = 3;
    private static final int PRICKED = 4;
    private static final int TWICE = 5;
    private static final int CHILD = 6;

    private final Checks c = new Checks();

    public static void main(String[] args) {
        BoundsOfSaidTest t = new BoundsOfSaidTest();
        t.moduloTwenty();
        t.asManyAsHeat();
        t.noSuchSign();
        t.chipped();
        t.widow();
        t.child();
        t.quick();
        t.twice();
        t.pricked();
        t.roots();
        t.noSigns();
        t.ills();
        t.allIll();
        t.saysCounts();
        t.saysPricked();
        t.saysOwn();
        t.saysOfWhatStandsNow();
        t.c.end();
    }

    /** One BIRD, 0, of the KIND, by a HEAT. */
    private static PieFunnels with(int kind, int a, int mouth, int heat) {
        PieFunnels x = new PieFunnels();
        x.bird(kind, a, mouth);
        x.ask(0, heat);
        return x;
    }

    private void saidOf(PieFunnels x, int... due) {
        c.asks(x, due.length, "said", 0, 0, NONE);
        for (int i = 0; i < due.length; i++) {
            c.asks(x, due[i], "said", 0, 0, i);
        }
        c.asks(x, -5, "said", 0, 0, due.length);
    }

    private void moduloTwenty() {
        c.sentence(0, "SIGNS (0 to 19), one behind the other.");
        c.sentence(0, "BIRD: of each layer, from below, twice its STUFFING, HEAT and MOUTH together, modulo 20");
        // STUFFING, HEAT, MOUTH, SIGN
        int[][] all = {{0, 1, 0, 1}, {9, 1, 0, 19}, {9, 2, 0, 0}, {9, 1, 1, 0}, {9, 3, 0, 1}, {9, 1, 19, 18},
            {9, 2, 19, 19}, {9, 3, 19, 0}, {9, 9, 19, 6}, {0, 1, 18, 19}, {0, 1, 19, 0}, {0, 9, 10, 19},
            {0, 9, 11, 0}, {0, 9, 19, 8}, {5, 9, 0, 19}, {5, 9, 1, 0}};
        for (int[] one : all) {
            PieFunnels x = with(BIRD, 9, one[2], one[1]);
            saidOf(Checks.fill(x, 0, one[0]), one[3]);
        }
    }

    private void asManyAsHeat() {
        c.sentence(0, "of as many layers as HEAT is at most.");
        for (int heat = 0; heat < 10; heat++) {
            for (int layers = 0; layers < 9; layers++) {
                PieFunnels x = with(BIRD, 0, 0, heat);
                x.row(0, 2, layers);
                int[] due = new int[Math.min(heat, layers)];
                for (int i = 0; i < layers; i++) {
                    x.set(0, i, i);
                }
                for (int i = 0; i < due.length; i++) {
                    due[i] = (i + i + heat) % 20;
                }
                saidOf(x, due);
            }
        }
    }

    private void noSuchSign() {
        c.sentence(16, "SAID of the PIE in SHELF s (the whole ROW): how many (i NONE), the i-th SIGN");
        PieFunnels x = with(BIRD, 0, 0, 9);
        Checks.fill(x, 0, 0, 1, 2, 3, 4, 5, 6, 7);
        saidOf(x, 9, 11, 13, 15, 17, 19, 1, 3);
        c.sentence(16, "-5 no such i (looked at only if it is a PIE)");
        c.asks(x, -5, "said", 0, 0, -2);
        x.row(0, 2, 0);
        saidOf(x);
        c.asks(x, -5, "said", 0, 0, 0);
        x.row(0, 2, 9);
        c.asks(x, -6, "said", 0, 0, 99);
    }

    private void chipped() {
        c.sentence(0, "CHIPPED: as BIRD, but a SIGN that is a multiple of 3 is 1 more (modulo 20).");
        int[] due = {1, 1, 2, 4, 4, 5, 7, 7, 8, 10, 10, 11, 13, 13, 14, 16, 16, 17, 19, 19};
        for (int sign = 0; sign < 20; sign++) {
            PieFunnels x = with(CHIPPED, 9, (sign + 19) % 20, 1);
            saidOf(Checks.fill(x, 0, 0), due[sign]);
        }
        saidOf(Checks.fill(with(CHIPPED, 9, 0, 9), 0, 0, 1, 2, 3, 4, 5, 6, 7), 10, 11, 13, 16, 17, 19, 1, 4);
    }

    private void widow() {
        c.sentence(0, "WIDOW: as CHIPPED, then each a more (modulo 20).");
        int[] chipped = {1, 1, 2, 4, 4, 5, 7, 7, 8, 10, 10, 11, 13, 13, 14, 16, 16, 17, 19, 19};
        for (int a = 0; a < 10; a++) {
            for (int sign = 0; sign < 20; sign++) {
                PieFunnels x = with(WIDOW, a, (sign + 19) % 20, 1);
                int due = chipped[sign] + a;
                saidOf(Checks.fill(x, 0, 0), due < 20 ? due : due - 20);
            }
        }
        // each by itself: 9 11 13 15 17 19 1 3 are 10 11 13 16 17 19 1 4, and 3 more
        saidOf(Checks.fill(with(WIDOW, 3, 0, 9), 0, 0, 1, 2, 3, 4, 5, 6, 7), 13, 14, 16, 19, 0, 2, 4, 7);
        c.due("11 and 9", Checks.fill(with(WIDOW, 9, 10, 1), 0, 0).said(0, 0, 0), 0);
        c.due("19 and 1", Checks.fill(with(WIDOW, 1, 18, 1), 0, 0).said(0, 0, 0), 0);
        c.due("19 and 9", Checks.fill(with(WIDOW, 9, 18, 1), 0, 0).said(0, 0, 0), 8);
    }

    private void child() {
        c.sentence(0, "CHILD: as WIDOW, but only each second (the second, the fourth, ..).");
        // by HEAT 9 and MOUTH 0 the SIGNS are 9 11 13 15 17 19 1 3; CHIPPED makes 9, 15, 3 one more; 3 more by a
        int[] widow = {13, 14, 16, 19, 0, 2, 4, 7};
        for (int layers = 0; layers < 9; layers++) {
            PieFunnels x = with(CHILD, 3, 0, 9);
            x.row(0, 2, layers);
            for (int i = 0; i < layers; i++) {
                x.set(0, i, i);
            }
            int[] due = new int[layers / 2];
            for (int i = 0; i < due.length; i++) {
                due[i] = widow[2 * i + 1];
            }
            saidOf(x, due);
        }
        c.due("by HEAT 1 the second isn't there", Checks.fill(with(CHILD, 0, 0, 1), 0, 1, 1).said(0, 0, NONE), 0);
        c.due("by HEAT 2 it is", Checks.fill(with(CHILD, 0, 0, 2), 0, 1, 1).said(0, 0, NONE), 1);
    }

    private void quick() {
        c.sentence(0, "QUICK: as BIRD, the last first.");
        PieFunnels x = with(QUICK, 0, 0, 9);
        Checks.fill(x, 0, 0, 1, 2, 3, 4, 5, 6, 7);
        saidOf(x, 3, 1, 19, 17, 15, 13, 11, 9);
        Checks.fill(x, 0, 0, 1, 2);
        saidOf(x, 13, 11, 9);
        Checks.fill(x, 0, 0, 1);
        saidOf(x, 11, 9);
        Checks.fill(x, 0, 4);
        saidOf(x, 17);
        x.row(0, 2, 0);
        saidOf(x);
        x.ask(0, 2);
        Checks.fill(x, 0, 0, 1, 2);
        saidOf(x, 4, 2);
    }

    private void twice() {
        c.sentence(0, "TWICE: as QUICK, each twice, one behind the other.");
        PieFunnels x = with(TWICE, 0, 0, 9);
        Checks.fill(x, 0, 0, 1, 2, 3, 4, 5, 6, 7);
        saidOf(x, 3, 3, 1, 1, 19, 19, 17, 17, 15, 15, 13, 13, 11, 11, 9, 9);
        Checks.fill(x, 0, 4);
        saidOf(x, 17, 17);
        x.row(0, 2, 0);
        saidOf(x);
        x.ask(0, 0);
        Checks.fill(x, 0, 4);
        saidOf(x);
    }

    private void pricked() {
        c.sentence(0, "PRICKED: as BIRD, the lesser first.");
        PieFunnels x = with(PRICKED, 0, 0, 9);
        Checks.fill(x, 0, 7, 6, 5, 4, 3, 2, 1, 0);
        saidOf(x, 1, 3, 9, 11, 13, 15, 17, 19);
        Checks.fill(x, 0, 0, 1, 2, 3, 4, 5, 6, 7);
        saidOf(x, 1, 3, 9, 11, 13, 15, 17, 19);
        Checks.fill(x, 0, 4, 4, 2, 4);
        saidOf(x, 13, 17, 17, 17);
        Checks.fill(x, 0, 4);
        saidOf(x, 17);
        x.row(0, 2, 0);
        saidOf(x);
        x.ask(0, 2);
        Checks.fill(x, 0, 9, 8, 0);
        saidOf(x, 0, 18);
    }

    private void roots() {
        c.sentence(0, "BRINGS: for each SIGN the STATE becomes that of TABLE, by the STATE then and the ROOT (SIGN "
            + "modulo 5).");
        int[] due = {1, 2, 3, 4, 5, 1, 2, 3, 4, 5, 1, 2, 3, 4, 5, 1, 2, 3, 4, 5};
        for (int sign = 0; sign < 20; sign++) {
            PieFunnels x = with(BIRD, 0, (sign + 19) % 20, 1);
            Checks.fill(x, 0, 0);
            c.asks(x, due[sign], "brings", 0, 0, 0);
            c.sentence(17, "What the PIE BRINGS (what 0), its ILLS (1)");
            c.asks(x, 0, "brings", 0, 0, 1);
            x.ask(1, 7);
            c.asks(x, (due[sign] + 7) % 8, "brings", 0, 0, 0);
        }
    }

    private void noSigns() {
        c.sentence(0, "BRINGS: for each SIGN the STATE becomes that of TABLE");
        for (int kind = 0; kind < 7; kind++) {
            PieFunnels x = with(kind, 0, 0, 9);
            x.ask(2, 255);
            x.row(0, 2, 0);
            for (int state = 0; state < 8; state++) {
                x.ask(1, state);
                c.asks(x, state, "brings", 0, 0, 0);
                c.asks(x, 0, "brings", 0, 0, 1);
            }
            x.ask(0, 0);
            Checks.fill(x, 0, 1, 2, 3, 4, 5, 6, 7, 8);
            c.asks(x, 7, "brings", 0, 0, 0);
            c.asks(x, 0, "brings", 0, 0, 1);
        }
    }

    private void ills() {
        c.sentence(0, "ILLS: behind how many of its SIGNS the STATE is one of TROUBLES.");
        PieFunnels x = with(BIRD, 0, 0, 9);
        // SIGNS 9 11 13, ROOTS 4 1 3: from 0 on 5, 7, 3
        Checks.fill(x, 0, 0, 1, 2);
        int[] due = {0, 0, 0, 1, 0, 1, 0, 1};
        for (int state = 0; state < 8; state++) {
            x.ask(2, 1 << state);
            c.asks(x, due[state], "brings", 0, 0, 1);
        }
        x.ask(2, 1 << 5 | 1 << 3);
        c.asks(x, 2, "brings", 0, 0, 1);
        x.ask(2, 255 - (1 << 5));
        c.asks(x, 2, "brings", 0, 0, 1);
        x.ask(2, 255);
        c.asks(x, 3, "brings", 0, 0, 1);
        x.ask(2, 0);
        c.asks(x, 0, "brings", 0, 0, 1);
    }

    private void allIll() {
        c.sentence(0, "ILLS: behind how many of its SIGNS the STATE is one of TROUBLES.");
        int[] due = {8, 8, 8, 8, 8, 16, 4};
        for (int kind = 0; kind < 7; kind++) {
            PieFunnels x = with(kind, 1, 1, 9);
            x.ask(2, 255);
            Checks.fill(x, 0, 9, 9, 9, 9, 9, 9, 9, 9);
            c.asks(x, due[kind], "brings", 0, 0, 1);
            c.asks(x, due[kind], "said", 0, 0, NONE);
        }
    }

    private void saysCounts() {
        c.sentence(8, "QUICK, TWICE how many SIGNS of a PIE of 3 layers");
        for (int heat = 0; heat < 10; heat++) {
            PieFunnels x = with(TWICE, 0, 0, heat);
            x.bird(QUICK, 0, 0);
            x.show(0, 0);
            x.show(1, 1);
            int told = Math.min(heat, 3);
            c.asks(x, 2 * told, "says", 0, QUICK);
            c.asks(x, 2 * told, "says", 0, TWICE);
            c.asks(x, told, "says", 1, QUICK);
            c.asks(x, -12, "says", 1, TWICE);
        }
    }

    private void saysPricked() {
        c.sentence(8, "PRICKED its first SIGN of the PIE 2 1 0 (NONE: none)");
        PieFunnels x = with(PRICKED, 0, 15, 0);
        x.show(0, 0);
        c.asks(x, NONE, "says", 0, PRICKED);
        // HEAT 1: 20 alone; HEAT 2: 21, 19; HEAT 3: 22, 20, 18; HEAT 9: 28, 26, 24
        int[] due = {NONE, 0, 1, 0, 1, 0, 1, 2, 3, 4};
        for (int heat = 0; heat < 10; heat++) {
            x.ask(0, heat);
            c.asks(x, due[heat], "says", 0, PRICKED);
        }
        c.asks(x, 15, "says", 0, BIRD);
        c.due("REFUSALS -1", x.status(11), 0);
    }

    private void saysOfWhatStandsNow() {
        c.sentence(8, "-12 also a BIRD of another KIND");
        PieFunnels x = with(PRICKED, 3, 4, 5);
        x.show(0, 0);
        c.asks(x, 4, "says", 0, BIRD);
        x.row(0, 2, 3);
        c.asks(x, -12, "says", 0, BIRD);
        c.asks(x, -12, "says", 0, PRICKED);
        c.sentence(8, "-13 (counted as -1 to -3)");
        x.show(0, 0);
        x.show(0, NONE);
        c.asks(x, -13, "says", 0, BIRD);
        c.asks(x, -13, "says", 0, PRICKED);
        c.asks(x, 2, "status", 12);
        c.asks(x, 2, "status", 13);
    }

    private void saysOwn() {
        c.sentence(8, "What the BIRD in SHELF s, taken for one of a KIND, says: BIRD its MOUTH; CHIPPED, WIDOW, CHILD "
            + "its a");
        int[] takenFor = {BIRD, CHIPPED, WIDOW, CHILD};
        for (int a = 0; a < 10; a += 9) {
            for (int mouth = 0; mouth < 20; mouth += 19) {
                PieFunnels x = with(CHILD, a, mouth, 0);
                for (int s = 0; s < 8; s += 7) {
                    x.show(s, 0);
                    for (int kind : takenFor) {
                        c.asks(x, kind == BIRD ? mouth : a, "says", s, kind);
                    }
                }
            }
        }
    }
}
