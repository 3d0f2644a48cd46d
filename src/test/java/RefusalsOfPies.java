/** The part of RefusalsTest for the calls that take a PIE, or told SIGNS, by a BIRD. */
final class RefusalsOfPies {
    private static final int MIN = Integer.MIN_VALUE;
    private static final int MAX = Integer.MAX_VALUE;
    private static final int NONE = PieFunnels.NONE;
    private static final int[] OTHER_WHATS = {-1, 2, MIN, MAX};

    private final RefusalsTest t;
    private final Checks c;

    RefusalsOfPies(RefusalsTest t, Checks c) {
        this.t = t;
        this.c = c;
    }

    void all() {
        newObject();
        said();
        brings();
        fits();
        fitsEither();
        pies();
        piesCounted();
        chance();
        chanceWrong();
        minutes();
        after();
        kings();
        tribes();
        tribesCounted();
        judge();
        judgeCounted();
        bake();
    }

    /** No SHELF and no BIRD come ahead of all that the rest could be refused for: last is what it could be. */
    private void nobody(int due, String call, long... last) {
        for (int s : new int[] {Twins.PIE, Twins.A_BIRD, Twins.NOTHING, Twins.NO_PIE, -1}) {
            t.noBird(due, call, 1, with(s, 0, last));
        }
        t.noShelf(due, call, 0, with(0, 0, last));
        t.noShelf(due, call, 0, with(0, Twins.NO_BIRD, last));
    }

    private static long[] with(long s, long bird, long... last) {
        long[] out = new long[last.length + 2];
        out[0] = s;
        out[1] = bird;
        System.arraycopy(last, 0, out, 2, last.length);
        return out;
    }

    /** Nobody is there at all. */
    private void newObject() {
        c.sentence(0, "-1 NOBODY: no such SHELF, BIRD, KIND.");
        String[] calls = {"said", "brings", "chance", "after", "kings", "bake", "minutes", "pies"};
        long[][] last = {{99}, {9}, {9, 9}, {99}, {9}, {}, {}, {9, 9}};
        for (int i = 0; i < calls.length; i++) {
            int due = i < 6 ? -1 : -11;
            t.no(new PieFunnels(), new PieFunnels(), due, calls[i], with(0, 0, last[i]));
            t.no(new PieFunnels(), new PieFunnels(), due, calls[i], with(8, 0, last[i]));
        }
        t.no(new PieFunnels(), new PieFunnels(), -1, "fits", 0, 0, 0, 0);
        c.sentence(0, "-3 NOTHING: a SHELF that holds NOTHING.");
        t.no(new PieFunnels(), new PieFunnels(), -13, "tribes", 0, 1, NONE);
        t.no(new PieFunnels(), new PieFunnels(), -13, "judge", 0, 1, 0);
    }

    private void said() {
        for (int i : new int[] {NONE, 0, 99, -2}) {
            c.sentence(16, "-1 also BIRD");
            nobody(-1, "said", i);
            c.sentence(16, "-2");
            t.no(-2, "said", Twins.A_BIRD, 0, i);
            c.sentence(16, "-3");
            t.no(-3, "said", Twins.NOTHING, 0, i);
            c.sentence(16, "-6 no PIE (ahead of i)");
            t.no(-6, "said", Twins.NO_PIE, 0, i);
            t.no(-6, "said", Twins.TEXT, 5, i);
        }
        c.sentence(16, "-5 no such i (looked at only if it is a PIE)");
        t.each(-5, "said", 2, new int[] {-2, 3, 4, 16, MIN, MAX}, Twins.PIE, 0, 0);
        // TWICE says six, CHILD one
        t.each(-5, "said", 2, new int[] {-2, 6}, Twins.PIE, 2, 0);
        t.each(-5, "said", 2, new int[] {-2, 1}, Twins.PIE, 5, 0);
    }

    private void brings() {
        for (int what : new int[] {0, 1, 2, -1}) {
            c.sentence(17, "-1 also BIRD");
            nobody(-1, "brings", what);
            c.sentence(17, "-2");
            t.no(-2, "brings", Twins.A_BIRD, 0, what);
            c.sentence(17, "-3");
            t.no(-3, "brings", Twins.NOTHING, 0, what);
        }
        c.sentence(17, "-5 another what");
        t.each(-5, "brings", 2, OTHER_WHATS, Twins.PIE, 0, 0);
        t.each(-5, "brings", 2, OTHER_WHATS, Twins.NO_PIE, 0, 0);
        c.sentence(17, "-6 no PIE");
        t.each(-6, "brings", 2, new int[] {0, 1}, Twins.NO_PIE, 0, 0);
    }

    private void fits() {
        c.sentence(20, "-1 also BIRD");
        for (int what : new int[] {0, 3}) {
            for (int other : new int[] {Twins.PIE, Twins.A_BIRD, Twins.NOTHING, 8}) {
                t.noShelf(-1, "fits", 0, 0, other, 0, what);
                t.noShelf(-1, "fits", 1, other, 0, 0, what);
                t.noBird(-1, "fits", 2, other, Twins.SIGNS, 0, what);
                t.noBird(-1, "fits", 2, Twins.NO_PIE, other, 0, what);
            }
        }
        c.sentence(20, "-5 another what");
        t.each(-5, "fits", 3, new int[] {-1, 3, MIN, MAX}, Twins.PIE, Twins.SIGNS, 0, 0);
        t.each(-5, "fits", 3, new int[] {-1, 3}, Twins.NO_PIE, Twins.SIGNS, 0, 0);
        c.sentence(20, "-6 no PIE");
        for (int what = 0; what < 3; what++) {
            t.no(-6, "fits", Twins.NO_PIE, Twins.SIGNS, 0, what);
            t.no(-6, "fits", Twins.TEXT, Twins.NO_PIE, 0, what);
        }
    }

    private void fitsEither() {
        for (int what : new int[] {0, 2, 3, -1}) {
            c.sentence(20, "-2 either");
            for (int other : new int[] {Twins.PIE, Twins.NO_PIE, Twins.A_BIRD, Twins.NOTHING}) {
                t.no(-2, "fits", Twins.A_BIRD, other, 0, what);
                t.no(-2, "fits", other, Twins.A_BIRD, 0, what);
            }
            c.sentence(20, "-3 either");
            for (int other : new int[] {Twins.PIE, Twins.NO_PIE, Twins.NOTHING}) {
                t.no(-3, "fits", Twins.NOTHING, other, 0, what);
                t.no(-3, "fits", other, Twins.NOTHING, 0, what);
            }
        }
    }

    private void pies() {
        long[][] rest = {{2, NONE}, {4, NONE}, {2, 2}, {-1, 99}};
        for (long[] one : rest) {
            c.sentence(21, "-11");
            nobody(-11, "pies", one);
            c.sentence(21, "-12");
            t.no(-12, "pies", with(Twins.A_BIRD, 0, one));
            c.sentence(21, "-13");
            t.no(-13, "pies", with(Twins.NOTHING, 0, one));
        }
    }

    private void piesCounted() {
        c.sentence(21, "-15 no such i");
        for (int k = 0; k < 4; k++) {
            t.each(-15, "pies", 3, new int[] {-2, k, k + 1, MIN, MAX}, Twins.SIGNS, 0, k, 0);
            // there no PIE fits at all
            t.each(-15, "pies", 3, new int[] {-2, k}, Twins.TEXT, 0, k, 0);
        }
        c.sentence(21, "-16 k (counted as -1 to -6; -16 ahead of -15)");
        for (int i : new int[] {NONE, 0, -2, 4}) {
            t.each(-16, "pies", 2, new int[] {-1, 4, MIN, MAX}, Twins.SIGNS, 0, 0, i);
        }
    }

    private void chance() {
        long[][] rest = {{0, 0}, {8, 0}, {0, 2}, {-1, -1}};
        for (long[] one : rest) {
            c.sentence(23, "-1 also BIRD");
            nobody(-1, "chance", one);
            c.sentence(23, "-2");
            t.no(-2, "chance", with(Twins.A_BIRD, 0, one));
            c.sentence(23, "-3");
            t.no(-3, "chance", with(Twins.NOTHING, 0, one));
        }
        c.sentence(23, "-5 another what");
        for (int state : new int[] {0, 7, 8, -1}) {
            t.each(-5, "chance", 3, OTHER_WHATS, Twins.PIE, 0, state, 0);
            t.each(-5, "chance", 3, OTHER_WHATS, Twins.NO_PIE, 0, state, 0);
        }
    }

    private void chanceWrong() {
        c.sentence(23, "-6 no PIE (NONE is a layer), more than 3 unknown, STATE");
        for (int what = 0; what < 2; what++) {
            t.no(-6, "chance", Twins.NO_PIE, 0, 0, what);
            t.no(-6, "chance", Twins.TEXT, 0, 0, what);
            withPie(-6, "chance", new long[] {-1, -1, -1, -1}, 0, 0, 0, what);
            withPie(-6, "chance", new long[] {4, -1, 4, -1, 4, -1, 4, -1}, 0, 0, 0, what);
            withPie(-6, "chance", new long[] {-1, -2}, 0, 0, 0, what);
            withPie(-6, "chance", new long[] {-1, 10}, 0, 0, 0, what);
            withPie(-6, "chance", new long[] {0, 0, 0, 0, 0, 0, 0, 0, -1}, 0, 0, 0, what);
        }
        t.each(-6, "chance", 2, new int[] {-1, 8, MIN, MAX}, Twins.PIE, 0, 0, 0);
        withPie(-6, "chance", new long[] {-1}, 0, 0, 8, 0);
    }

    /** The call is refused in a world with another ROW in its PIE's SHELF. */
    private void withPie(int due, String call, long[] pie, long... arguments) {
        withRow(due, Twins.PIE, pie, call, arguments);
    }

    private void withRow(int due, int s, long[] row, String call, long... arguments) {
        PieFunnels x = Checks.fill(Twins.world(), s, row);
        PieFunnels twin = Checks.fill(Twins.world(), s, row);
        t.no(x, twin, due, call, arguments);
    }

    private void minutes() {
        c.sentence(24, "-11");
        nobody(-11, "minutes");
        c.sentence(24, "-12");
        t.no(-12, "minutes", Twins.A_BIRD, 0);
        c.sentence(24, "-13");
        t.no(-13, "minutes", Twins.NOTHING, 0);
        c.sentence(24, "-16 no PIE (counted as -1 to -6)");
        t.no(-16, "minutes", Twins.NO_PIE, 0);
        t.no(-16, "minutes", Twins.TEXT, 5);
    }

    private void after() {
        for (int n : new int[] {0, 40, 41, -1}) {
            c.sentence(25, "-1 also BIRD");
            nobody(-1, "after", n);
            c.sentence(25, "-2");
            t.no(-2, "after", Twins.A_BIRD, 0, n);
            c.sentence(25, "-3");
            t.no(-3, "after", Twins.NOTHING, 0, n);
        }
        c.sentence(25, "-6 no PIE, n");
        t.each(-6, "after", 2, new int[] {0, 40, 41, -1}, Twins.NO_PIE, 0, 0);
        t.each(-6, "after", 2, new int[] {-1, 41, MIN, MAX}, Twins.PIE, 0, 0);
    }

    private void kings() {
        for (int what : new int[] {0, 1, 2, -1}) {
            c.sentence(26, "-1 also BIRD");
            nobody(-1, "kings", what);
            c.sentence(26, "-2");
            t.no(-2, "kings", Twins.A_BIRD, 0, what);
            c.sentence(26, "-3");
            t.no(-3, "kings", Twins.NOTHING, 0, what);
        }
        c.sentence(26, "-5 another what");
        t.each(-5, "kings", 2, OTHER_WHATS, Twins.PIE, 0, 0);
        t.each(-5, "kings", 2, OTHER_WHATS, Twins.NO_PIE, 0, 0);
        for (int what : OTHER_WHATS) {
            withPie(-5, "kings", new long[0], 0, 0, what);
        }
        c.sentence(26, "-6 no PIE, no layers");
        for (int what = 0; what < 2; what++) {
            t.no(-6, "kings", Twins.NO_PIE, 0, what);
            withPie(-6, "kings", new long[0], 0, 0, what);
            // not even its last layer, which the other king sets, may be no STUFFING
            withPie(-6, "kings", new long[] {1, 10}, 0, 0, what);
        }
    }

    private void tribes() {
        for (int i : new int[] {NONE, 0, 3, -2}) {
            c.sentence(27, "-11");
            for (int other : new int[] {Twins.PIE, Twins.A_BIRD, Twins.NOTHING, 8}) {
                t.noShelf(-11, "tribes", 0, 0, other, i);
                t.noShelf(-11, "tribes", 1, other, 0, i);
            }
            c.sentence(27, "-12 either");
            for (int other : new int[] {Twins.WISHES, Twins.NO_PIE, Twins.A_BIRD, Twins.NOTHING}) {
                t.no(-12, "tribes", Twins.A_BIRD, other, i);
                t.no(-12, "tribes", other, Twins.A_BIRD, i);
            }
            c.sentence(27, "-13 either");
            for (int other : new int[] {Twins.WISHES, Twins.NO_PIE, Twins.NOTHING}) {
                t.no(-13, "tribes", Twins.NOTHING, other, i);
                t.no(-13, "tribes", other, Twins.NOTHING, i);
            }
        }
    }

    private void tribesCounted() {
        c.sentence(27, "-15 no such i");
        t.each(-15, "tribes", 2, new int[] {-2, 3, 4, 7, MIN, MAX}, Twins.PIE, Twins.WISHES, 0);
        withRow(-15, Twins.WISHES, new long[0], "tribes", Twins.PIE, Twins.WISHES, 0);
        withRow(-15, Twins.WISHES, new long[] {1, 1, 1, 1, 1, 1, 1}, "tribes", Twins.PIE, Twins.WISHES, 7);
        c.sentence(27, "-16 no PIE, more than 7, no STATES (counted as -1 to -6; -16 ahead of -15)");
        for (int i : new int[] {NONE, 0, 7, 99, -2}) {
            t.no(-16, "tribes", Twins.NO_PIE, Twins.WISHES, i);
            withRow(-16, Twins.WISHES, new long[] {1, 1, 1, 1, 1, 1, 1, 1}, "tribes", Twins.PIE, Twins.WISHES, i);
            withRow(-16, Twins.WISHES, new long[] {8, 1, 1}, "tribes", Twins.PIE, Twins.WISHES, i);
            withRow(-16, Twins.WISHES, new long[] {1, 1, -1}, "tribes", Twins.PIE, Twins.WISHES, i);
            withRow(-16, Twins.WISHES, new long[] {1, 1, 1, 1, 1, 1, 8}, "tribes", Twins.PIE, Twins.WISHES, i);
        }
    }

    private void judge() {
        for (int n : new int[] {0, 2, 3, 41, -1}) {
            c.sentence(29, "-11");
            for (int other : new int[] {Twins.PIE, Twins.A_BIRD, Twins.NOTHING, 8}) {
                t.noShelf(-11, "judge", 0, 0, other, n);
                t.noShelf(-11, "judge", 1, other, 0, n);
            }
            c.sentence(29, "-12 either");
            for (int other : new int[] {Twins.TWOS, Twins.NO_PIE, Twins.A_BIRD, Twins.NOTHING}) {
                t.no(-12, "judge", Twins.A_BIRD, other, n);
                t.no(-12, "judge", other, Twins.A_BIRD, n);
            }
            c.sentence(29, "-13 either");
            for (int other : new int[] {Twins.TWOS, Twins.NO_PIE, Twins.NOTHING}) {
                t.no(-13, "judge", Twins.NOTHING, other, n);
                t.no(-13, "judge", other, Twins.NOTHING, n);
            }
        }
    }

    private void judgeCounted() {
        c.sentence(29, "-14 n");
        t.each(-14, "judge", 2, new int[] {-1, -41, MIN}, Twins.PIE, Twins.TWOS, 0);
        t.each(-14, "judge", 2, new int[] {-1, MIN}, Twins.NO_PIE, Twins.TWOS, 0);
        c.sentence(29, "-15 fewer elements");
        t.each(-15, "judge", 2, new int[] {3, 40, 41, 1 << 30, MAX}, Twins.PIE, Twins.TWOS, 0);
        t.each(-15, "judge", 2, new int[] {3, 41}, Twins.NO_PIE, Twins.TWOS, 0);
        withRow(-15, Twins.TWOS, new long[] {0, 1, 0}, "judge", Twins.PIE, Twins.TWOS, 2);
        withRow(-15, Twins.TWOS, new long[81], "judge", Twins.PIE, Twins.TWOS, 41);
        withRow(-15, Twins.TWOS, new long[79], "judge", Twins.PIE, Twins.TWOS, 40);
        c.sentence(29, "-16 no PIE, n above 40 (counted as -1 to -6)");
        t.each(-16, "judge", 2, new int[] {0, 1, 2}, Twins.NO_PIE, Twins.TWOS, 0);
        withRow(-16, Twins.TWOS, new long[82], "judge", Twins.PIE, Twins.TWOS, 41);
    }

    private void bake() {
        c.sentence(30, "-1 also BIRD");
        nobody(-1, "bake");
        c.sentence(30, "-2");
        t.no(-2, "bake", Twins.A_BIRD, 0);
        c.sentence(30, "-3");
        t.no(-3, "bake", Twins.NOTHING, 0);
        c.sentence(30, "-6 no PIE");
        t.no(-6, "bake", Twins.NO_PIE, 0);
        t.no(-6, "bake", Twins.TEXT, 5);
    }
}
