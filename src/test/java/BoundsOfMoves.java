/** The part of BoundsInTruthTest for MOVES and THE TRACE. */
final class BoundsOfMoves {
    private static final int NONE = PieFunnels.NONE;
    private static final int MIN = Integer.MIN_VALUE;
    private static final int MAX = Integer.MAX_VALUE;
    private static final int SINGS = 0;
    private static final int STEAMS = 1;
    private static final int FALLS = 2;

    private final Checks c;

    BoundsOfMoves(Checks c) {
        this.c = c;
    }

    void all() {
        wrapping();
        numberAndA();
        nextKindAbove();
        firstTwenty();
        noSuchMove();
        traceEnds();
    }

    /** A BIRD of the KIND with k, of number m; those ahead of it are of KIND 0. */
    private static PieFunnels with(int kind, int k, int m) {
        PieFunnels x = new PieFunnels();
        for (int i = 0; i < m; i++) {
            x.bird(0, 9, 0);
        }
        x.bird(kind, k, 0);
        return x;
    }

    private void wrapping() {
        c.sentence(0, "MOVES of BIRDS, with x (wrapping): 0 sings, 1 steams, 2 falls; m the number, k its a.");
        c.sentence(33, "A MOVE of a BIRD with x");
        c.asks(with(0, 0, 1), MIN, "act", 1, SINGS, MAX);
        c.asks(with(0, 0, 6), MIN + 5, "act", 6, SINGS, MAX);
        c.asks(with(0, 0, 0), MIN, "act", 0, STEAMS, 1 << 30);
        c.asks(with(0, 0, 0), -2, "act", 0, STEAMS, MAX);
        c.asks(with(0, 0, 0), 0, "act", 0, STEAMS, MIN);
        c.asks(with(0, 9, 0), MAX - 8, "act", 0, FALLS, MIN);
        c.asks(with(1, 9, 0), MIN + 8, "act", 0, SINGS, MAX);
        c.asks(with(2, 0, 0), MIN, "act", 0, STEAMS, 1 << 30);
        c.asks(with(2, 0, 0), -6, "act", 0, STEAMS, MAX);
        c.asks(with(3, 0, 0), MIN, "act", 0, SINGS, MAX);
        c.asks(with(4, 0, 0), MIN, "act", 0, FALLS, MIN);
        c.asks(with(4, 9, 6), MAX, "act", 6, SINGS, MAX);
        // six times MAX is -6
        c.asks(with(5, 0, 0), MIN, "act", 0, FALLS, MAX);
        c.asks(with(5, 0, 0), 5, "act", 0, FALLS, 0);
        c.asks(with(5, 9, 0), 60 ^ 1 ^ 5, "act", 0, FALLS, 10);
        // x - 1 is MAX, and 1 more MIN again, and 1 for k: twice and twice 1
        c.asks(with(6, 1, 0), 4, "act", 0, STEAMS, MIN);
        c.asks(with(6, 0, 0), 0, "act", 0, SINGS, MAX);
    }

    private void numberAndA() {
        c.sentence(0, "m the number, k its a.");
        for (int m = 0; m < 7; m++) {
            c.asks(with(0, 5, m), 100 + m, "act", m, SINGS, 100);
            c.asks(with(1, 5, m), 105 + m, "act", m, SINGS, 100);
            c.asks(with(4, 5, m), 100, "act", m, SINGS, 100);
        }
        for (int k = 0; k < 10; k++) {
            c.asks(with(3, k, 2), 103 + k, "act", 2, SINGS, 100);
            c.asks(with(0, k, 2), 204 ^ (102 - k), "act", 2, FALLS, 100);
        }
    }

    private void nextKindAbove() {
        c.sentence(0, "sings(..) and so on: the body of the BIRD's KIND, or of the next KIND above that has one; super: "
            + "from the KIND above the body's on.");
        // the bodies by KIND: sings; steams; falls
        int[][][] due = {
            {{10}, {11, 10}, {12, 11, 10, 10}},
            {{20, 10}, {11, 20, 10}, {12, 11, 20, 10, 20, 10}},
            {{10}, {30, 11, 10}, {12, 30, 11, 10, 10}},
            {{40, 20, 10}, {11, 40, 20, 10}, {12, 11, 40, 20, 10, 40, 20, 10}},
            {{51, 10}, {11, 51, 10}, {50, 12, 11, 51, 10, 51, 10}},
            {{10}, {30, 11, 10}, {60, 12, 30, 11, 10, 10}},
            {{70, 40, 20, 10}, {71, 11, 70, 40, 20, 10}, {12, 71, 11, 70, 40, 20, 10, 70, 40, 20, 10}}};
        for (int kind = 0; kind < 7; kind++) {
            for (int move = 0; move < 3; move++) {
                PieFunnels x = with(kind, 3, 1);
                x.act(1, move, 8);
                int[] bodies = due[kind][move];
                c.asks(x, bodies.length, "status", 7);
                for (int i = 0; i < bodies.length; i++) {
                    c.asks(x, bodies[i], "trace", i);
                }
                c.asks(x, NONE, "trace", bodies.length);
            }
        }
    }

    private void firstTwenty() {
        c.sentence(0, "THE TRACE: the numbers of the bodies that ran in the latest act(), in the order in which they "
            + "began; the first 20 are kept.");
        // no MOVE runs more than eleven bodies, and what ran by an act() ahead is no more there
        PieFunnels x = with(6, 3, 0);
        for (int time = 0; time < 3; time++) {
            x.act(0, FALLS, 5);
            c.asks(x, 11, "status", 7);
            c.asks(x, 10, "trace", 10);
            for (int i = 11; i < 22; i++) {
                c.asks(x, NONE, "trace", i);
            }
        }
        x.act(0, SINGS, 5);
        c.asks(x, 4, "status", 7);
        c.asks(x, NONE, "trace", 4);
    }

    private void noSuchMove() {
        c.sentence(33, "0, and no TRACE then: no such BIRD, move");
        int[][] wrong = {{-1, 0}, {2, 0}, {7, 0}, {MIN, 0}, {MAX, 0}, {0, -1}, {0, 3}, {0, MIN}, {0, MAX}, {9, 9}};
        for (int[] one : wrong) {
            PieFunnels x = with(6, 3, 1);
            x.act(1, FALLS, 5);
            c.asks(x, 0, "act", one[0], one[1], 77);
            c.asks(x, 0, "status", 7);
            c.asks(x, NONE, "trace", 0);
            for (int what = 11; what < 18; what++) {
                c.asks(x, 0, "status", what);
            }
            c.asks(x, 2, "status", 0);
        }
        c.asks(new PieFunnels(), 0, "act", 0, 0, 77);
    }

    private void traceEnds() {
        c.sentence(34, "THE TRACE's i-th body");
        PieFunnels x = with(5, 3, 0);
        c.sentence(34, "NONE: none such");
        c.asks(x, NONE, "trace", 0);
        x.act(0, FALLS, 5);
        c.asks(x, 60, "trace", 0);
        c.asks(x, 10, "trace", 5);
        for (int i : new int[] {-1, 6, 19, 20, 21, MIN, MAX}) {
            c.asks(x, NONE, "trace", i);
        }
    }
}
