/** The part of BoundsOfQuestionsTest for CHANCE, HOPE, WAIT, AFTER, KINGS, TRIBES, ALIKE, told YEARS. */
final class BoundsOfMany {
    private static final int NONE = PieFunnels.NONE;
    private static final int CHIPPED = 1;
    private static final int QUICK = 2;
    private static final int TWICE = 5;
    private static final int CHILD = 6;

    private final Checks c;

    BoundsOfMany(Checks c) {
        this.c = c;
    }

    void all() {
        chanceKnown();
        chanceUnknown();
        chanceNarrow();
        hope();
        waitHeat();
        waitFewest();
        after();
        kings();
        kingsLeastHeat();
        kingsMostHeat();
        kingsNoMoreHeat();
        kingsEachStuffing();
        kingsLastOfEight();
        tribesSizes();
        tribesParted();
        tribesStates();
        alike();
        judge();
        judgeFirst();
        judgeCarries();
    }

    private static PieFunnels with(int kind, int heat) {
        return BoundsOfQuestionsTest.with(kind, heat);
    }

    private void chanceKnown() {
        c.sentence(0, "CHANCE: in a PIE with NONE (-1) for layers that aren't known (3 at most)");
        PieFunnels x = with(0, 9);
        x.row(0, 2, 0);
        for (int state = 0; state < 8; state++) {
            c.asks(x, state == 0 ? 1000000 : 0, "chance", 0, 0, state, 0);
        }
        c.asks(x, 0, "chance", 0, 0, 0, 1);
        // SIGN 9, ROOT 4
        Checks.fill(x, 0, 0);
        for (int state = 0; state < 8; state++) {
            c.asks(x, state == 5 ? 1000000 : 0, "chance", 0, 0, state, 0);
        }
    }

    private void chanceUnknown() {
        c.sentence(0, "CHANCE: in a PIE with NONE (-1) for layers that aren't known (3 at most), each STUFFING alike: of "
            + "1,000,000 (cut), how likely it BRINGS a STATE.");
        PieFunnels x = BoundsOfQuestionsTest.counting(with(0, 9));
        long[][] pies = {{-1}, {-1, -1}, {-1, -1, -1}, {-1, 0, 0, -1, 0, 0, 0, -1}, {9, 9, 9, 9, 9, -1, -1, -1}};
        for (long[] pie : pies) {
            for (int sort = 0; sort < 4; sort++) {
                Checks.fillSort(x, 0, sort, pie);
                c.asks(x, 1000000, "chance", 0, 0, Math.min(pie.length, 7), 0);
            }
        }
        Checks.fill(x, 0, -1, -1, -1, -1);
        c.asks(x, -6, "chance", 0, 0, 4, 0);
        Checks.fill(x, 0, -1, 0, 0, -1, 0, -1, 0, -1);
        c.asks(x, -6, "chance", 0, 0, 7, 0);
        // those that HEAT leaves out are unknown as well
        x.ask(0, 1);
        Checks.fill(x, 0, 0, -1, -1, -1);
        c.asks(x, 1000000, "chance", 0, 0, 1, 0);
        Checks.fill(x, 0, -1, -1, -1, -1);
        c.asks(x, -6, "chance", 0, 0, 1, 0);
    }

    private void chanceNarrow() {
        c.sentence(0, "each STUFFING alike: of 1,000,000 (cut), how likely it BRINGS a STATE.");
        c.sentence(23, "CHANCE of a STATE (what 0), HOPE (1; state is any number)");
        PieFunnels x = BoundsOfQuestionsTest.narrow(with(0, 5), 3);
        int[][] due = {{0, 200000, 0, 0, 0, 0, 0, 800000}, {0, 0, 40000, 0, 0, 0, 0, 960000},
            {0, 0, 0, 8000, 0, 0, 0, 992000}};
        for (int unknown = 1; unknown < 4; unknown++) {
            x.row(0, 2, unknown);
            for (int i = 0; i < unknown; i++) {
                x.set(0, i, -1);
            }
            for (int state = 0; state < 8; state++) {
                c.asks(x, due[unknown - 1][state], "chance", 0, 0, state, 0);
            }
            c.asks(x, -6, "chance", 0, 0, 8, 0);
            c.asks(x, -6, "chance", 0, 0, -1, 0);
        }
        // ROOT 3 by 4 and 9, and by no other one
        Checks.fill(x, 0, 4, -1, 9);
        c.asks(x, 200000, "chance", 0, 0, 3, 0);
        Checks.fill(x, 0, 4, -1, 8);
        c.asks(x, 0, "chance", 0, 0, 3, 0);
    }

    private void hope() {
        c.sentence(0, "HOPE: a thousand times the mean of its ILLS (cut).");
        c.sentence(23, "CHANCE of a STATE (what 0), HOPE (1; state is any number)");
        PieFunnels x = BoundsOfQuestionsTest.narrow(with(0, 5), 3);
        x.ask(2, 128);
        int[] due = {800, 1760, 2752};
        int[] states = {0, 7, 8, -1, Integer.MIN_VALUE, Integer.MAX_VALUE};
        for (int unknown = 1; unknown < 4; unknown++) {
            x.row(0, 2, unknown);
            for (int i = 0; i < unknown; i++) {
                x.set(0, i, -1);
            }
            for (int state : states) {
                c.asks(x, due[unknown - 1], "chance", 0, 0, state, 1);
            }
        }
        x.ask(2, 0);
        c.asks(x, 0, "chance", 0, 0, 0, 1);
        PieFunnels y = with(TWICE, 9);
        y.ask(2, 255);
        Checks.fill(y, 0, -1, 1, 2, -1, 4, 5, 6, -1);
        c.asks(y, 16000, "chance", 0, 0, 8, 1);
        y.row(0, 2, 8);
        c.asks(y, 16000, "chance", 0, 0, 8, 1);
        y.ask(0, 0);
        c.asks(y, 0, "chance", 0, 0, 8, 1);
    }

    private void waitHeat() {
        c.sentence(0, "WAIT: the fewest minutes (0 to HEAT; HEAT is 1 less by each) behind which a PIE brings no ILLS; "
            + "NONE.");
        c.sentence(24, "WAIT; NONE");
        for (int heat = 0; heat < 10; heat++) {
            for (int kind = 0; kind < 7; kind++) {
                PieFunnels x = with(kind, heat);
                x.ask(2, 255);
                Checks.fill(x, 0, 0, 0);
                // by HEAT 0 none says anything, CHILD not by HEAT 1 either
                c.asks(x, kind == CHILD && heat > 0 ? heat - 1 : heat, "minutes", 0, 0);
                x.row(0, 2, 0);
                c.asks(x, 0, "minutes", 0, 0);
                x.ask(2, 0);
                Checks.fill(x, 0, 0, 0);
                c.asks(x, 0, "minutes", 0, 0);
                c.asks(x, heat, "status", 1);
            }
        }
    }

    private void waitFewest() {
        c.sentence(0, "WAIT: the fewest minutes (0 to HEAT; HEAT is 1 less by each) behind which a PIE brings no ILLS");
        // by HEAT 9, 8, .. the STATE that comes is 5 4 3 2 1 5 4 3 2, by HEAT 0 none
        PieFunnels x = with(0, 9);
        Checks.fill(x, 0, 0);
        int[] ills = {1 << 5, 1 << 5 | 1 << 4, 1 << 5 | 1 << 4 | 1 << 3, 1 << 5 | 1 << 4 | 1 << 3 | 1 << 2, 62};
        int[] due = {1, 2, 3, 4, 9};
        for (int i = 0; i < ills.length; i++) {
            x.ask(2, ills[i]);
            c.asks(x, due[i], "minutes", 0, 0);
        }
        x.ask(2, 62 - 32);
        c.asks(x, 0, "minutes", 0, 0);
    }

    private void after() {
        c.sentence(0, "AFTER: the STATE it BRINGS if one bakes it so many times (0 to 40), one behind the other.");
        c.sentence(25, "AFTER");
        PieFunnels x = with(0, 5);
        Checks.fill(x, 0, 0);
        for (int state = 0; state < 8; state += 7) {
            x.ask(1, state);
            for (int n = 0; n < 41; n++) {
                c.asks(x, (state + n) % 8, "after", 0, 0, n);
            }
            c.asks(x, -6, "after", 0, 0, 41);
            c.asks(x, -6, "after", 0, 0, -1);
        }
        x.row(0, 2, 0);
        c.asks(x, 7, "after", 0, 0, 40);
        c.asks(x, 7, "status", 2);
        c.asks(x, 0, "status", 4);
    }

    private void kings() {
        c.sentence(0, "KINGS: of a PIE of at least one layer one king sets HEAT (0 to 9) first, to have most ILLS, the "
            + "other one its last layer then, to have fewest: how many ILLS; by which HEAT, of several the least.");
        c.sentence(26, "KINGS: ILLS (what 0), HEAT (1)");
        int[] most = {1, 2, 3, 4, 5, 6, 7, 8};
        for (int layers = 1; layers < 9; layers++) {
            PieFunnels x = with(0, 5);
            x.ask(2, 255);
            x.row(0, 2, layers);
            c.asks(x, most[layers - 1], "kings", 0, 0, 0);
            c.asks(x, most[layers - 1], "kings", 0, 0, 1);
            c.asks(x, 5, "status", 1);
        }
        PieFunnels x = with(TWICE, 5);
        x.ask(2, 255);
        x.row(0, 2, 8);
        c.asks(x, 16, "kings", 0, 0, 0);
        c.asks(x, 8, "kings", 0, 0, 1);
        x.row(0, 2, 0);
        c.asks(x, -6, "kings", 0, 0, 0);
        c.asks(x, -6, "kings", 0, 0, 1);
    }

    private void kingsLeastHeat() {
        c.sentence(0, "by which HEAT, of several the least.");
        PieFunnels x = with(0, 9);
        Checks.fill(x, 0, 0, 0);
        c.asks(x, 0, "kings", 0, 0, 0);
        c.asks(x, 0, "kings", 0, 0, 1);
        // the first layer's ROOT is HEAT modulo 5, so two HEATS each bring one STATE first; by HEAT 1 it is told of alone
        int[] least = {0, 5, 1, 2, 3, 4};
        for (int state = 1; state < 6; state++) {
            x.ask(2, 1 << state);
            c.asks(x, 1, "kings", 0, 0, 0);
            c.asks(x, least[state], "kings", 0, 0, 1);
        }
    }

    private void kingsMostHeat() {
        c.sentence(0, "KINGS: of a PIE of at least one layer one king sets HEAT (0 to 9) first");
        // the ROOTS 0 1 of the first two layers come by HEAT 9 alone: CHIPPED's 10 11
        PieFunnels x = with(CHIPPED, 0);
        Checks.fill(x, 0, 0, 1, 0);
        for (int root = 0; root < 5; root++) {
            x.table(0, root, root == 0 ? 1 : 0);
            x.table(1, root, root == 1 ? 7 : 2);
            x.table(2, root, 2);
            x.table(7, root, 6);
        }
        x.ask(2, 128);
        c.asks(x, 1, "kings", 0, 0, 0);
        c.asks(x, 9, "kings", 0, 0, 1);
    }

    private void kingsNoMoreHeat() {
        c.sentence(0, "KINGS: of a PIE of at least one layer one king sets HEAT (0 to 9) first");
        // six ROOTS 0 one behind the other would come by HEAT 10; by HEAT 5 there are five
        PieFunnels x = with(0, 5);
        x.row(0, 2, 8);
        for (int state = 0; state < 8; state++) {
            for (int root = 0; root < 5; root++) {
                x.table(state, root, root == 0 ? Math.min(state + 1, 7) : 0);
            }
        }
        x.ask(2, 1 << 6);
        c.asks(x, 0, "kings", 0, 0, 0);
        c.asks(x, 0, "kings", 0, 0, 1);
        x.ask(2, 1 << 5);
        c.asks(x, 1, "kings", 0, 0, 0);
        c.asks(x, 5, "kings", 0, 0, 1);
    }

    private void kingsEachStuffing() {
        c.sentence(0, "the other one its last layer then, to have fewest: how many ILLS");
        // only ROOT 0 does no harm; CHIPPED says it by 10 alone where SIGNS are even: by MOUTH 8 and HEAT 2 it is STUFFING
        // 0, by HEAT 4 it is 9, by HEAT 6 it is 8, by HEAT 8 it is 7
        PieFunnels x = new PieFunnels();
        x.bird(CHIPPED, 0, 8);
        x.ask(2, 255 - (1 << 1));
        for (int stuffing = 0; stuffing < 10; stuffing++) {
            Checks.fill(x, 0, stuffing);
            c.asks(x, 0, "kings", 0, 0, 0);
            c.asks(x, 0, "kings", 0, 0, 1);
            c.asks(x, stuffing, "element", 0, 0);
        }
        // by other MOUTHS it is the other ones
        for (int mouth = 0; mouth < 20; mouth++) {
            PieFunnels y = new PieFunnels();
            y.bird(CHIPPED, 0, mouth);
            y.ask(2, 255 - (1 << 1));
            Checks.fill(y, 0, 5);
            c.asks(y, 0, "kings", 0, 0, 0);
        }
    }

    private void kingsLastOfEight() {
        c.sentence(0, "the other one its last layer then, to have fewest: how many ILLS");
        // each SIGN brings the next STATE, and from 7 ROOT 0 leads out, which the last layer may have
        PieFunnels x = BoundsOfQuestionsTest.counting(with(0, 5));
        x.row(0, 2, 8);
        x.table(7, 0, 0);
        x.ask(2, 1 << 7);
        c.asks(x, 1, "kings", 0, 0, 0);
        c.asks(x, 7, "kings", 0, 0, 1);
        x.ask(2, 1 << 7 | 1);
        c.asks(x, 2, "kings", 0, 0, 0);
        c.asks(x, 8, "kings", 0, 0, 1);
        // of seven layers told of, the one that isn't told of doesn't help
        x.ask(2, 1 << 7);
        x.row(0, 2, 7);
        c.asks(x, 1, "kings", 0, 0, 0);
        c.asks(x, 7, "kings", 0, 0, 1);
    }

    /** BIRDS by HEAT 1 and a PIE 0: that of number i brings from 0 the STATE brought[i], 1 to 5. */
    private static PieFunnels bringing(int... brought) {
        PieFunnels x = new PieFunnels();
        x.ask(0, 1);
        for (int state : brought) {
            x.bird(0, 0, state + 3);
        }
        Checks.fill(x, 0, 0);
        return x;
    }

    private void wishes(PieFunnels x, int served, long[] wishes, int... due) {
        Checks.fill(x, 1, wishes);
        c.asks(x, served, "tribes", 0, 1, NONE);
        for (int i = 0; i < due.length; i++) {
            c.asks(x, due[i], "tribes", 0, 1, i);
        }
        c.asks(x, -15, "tribes", 0, 1, due.length);
        c.asks(x, -15, "tribes", 0, 1, -2);
    }

    private void tribesSizes() {
        c.sentence(0, "TRIBES: a ROW of STATES they wish for, 7 at most");
        PieFunnels x = bringing(5, 4, 3, 2, 1, 1, 1);
        wishes(x, 0, new long[0]);
        wishes(x, 1, new long[] {5}, 0);
        wishes(x, 7, new long[] {1, 2, 3, 4, 5, 1, 1}, 4, 3, 2, 1, 0, 5, 6);
        Checks.fill(x, 1, 1, 2, 3, 4, 5, 1, 1, 1);
        c.asks(x, -16, "tribes", 0, 1, NONE);
        c.asks(x, -16, "tribes", 0, 1, 8);
        x.row(1, 2, 160);
        c.asks(x, -16, "tribes", 0, 1, NONE);
    }

    private void tribesParted() {
        c.sentence(0, "BIRDS to tribes, each to one at most, that bring it by a PIE: how many at most can have it; whom "
            + "the i-th has, of such partings the first by rows (NONE behind all BIRDS).");
        c.sentence(27, "TRIBES by the ROW in SHELF p (the whole one) and the PIE in SHELF s: how many (i NONE), whom the "
            + "i-th has (NONE)");
        wishes(bringing(1), 1, new long[] {1, 1}, 0, NONE);
        wishes(bringing(1), 1, new long[] {2, 1}, NONE, 0);
        wishes(bringing(1, 1, 1), 2, new long[] {1, 1}, 0, 1);
        wishes(bringing(1, 1), 2, new long[] {1, 1, 1, 1, 1, 1, 1}, 0, 1, NONE, NONE, NONE, NONE, NONE);
        wishes(bringing(2, 1, 2, 1), 4, new long[] {1, 2, 1, 2}, 1, 0, 3, 2);
        wishes(bringing(2, 3, 4), 0, new long[] {1, 5}, NONE, NONE);
        wishes(bringing(), 0, new long[] {1, 5}, NONE, NONE);
        wishes(bringing(1, 1, 1, 1, 1, 1, 1), 7, new long[] {1, 1, 1, 1, 1, 1, 1}, 0, 1, 2, 3, 4, 5, 6);
    }

    private void tribesStates() {
        c.sentence(0, "TRIBES: a ROW of STATES they wish for");
        PieFunnels x = bringing(1);
        x.row(0, 2, 0);
        for (int state = 0; state < 8; state++) {
            x.ask(1, state);
            for (int wish = -1; wish < 9; wish++) {
                Checks.fill(x, 1, wish);
                c.asks(x, wish < 0 || wish > 7 ? -16 : wish == state ? 1 : 0, "tribes", 0, 1, NONE);
            }
        }
    }

    private void alike() {
        c.sentence(0, "ALIKE of two BIRDS: of all PIES of 2 layers, by how many they say just the same.");
        c.sentence(28, "ALIKE");
        PieFunnels x = with(0, 9);
        x.bird(QUICK, 0, 0);
        x.bird(TWICE, 0, 0);
        x.bird(0, 0, 1);
        x.bird(CHILD, 0, 0);
        x.bird(CHIPPED, 9, 0);
        c.asks(x, 100, "alike", 0, 0);
        c.asks(x, 10, "alike", 0, 1);
        c.asks(x, 0, "alike", 0, 2);
        c.asks(x, 0, "alike", 1, 2);
        c.asks(x, 0, "alike", 0, 3);
        c.asks(x, 0, "alike", 4, 0);
        // the multiples of 3 among the odd SIGNS: 3, 9, 15
        c.asks(x, 49, "alike", 5, 0);
        x.ask(0, 1);
        c.asks(x, 100, "alike", 0, 1);
        c.asks(x, 0, "alike", 0, 2);
        c.asks(x, 0, "alike", 0, 4);
        c.asks(x, 70, "alike", 0, 5);
        x.ask(0, 0);
        for (int bird = 0; bird < 6; bird++) {
            c.asks(x, 100, "alike", bird, 5 - bird);
        }
    }

    private void judge() {
        c.sentence(29, "A told YEAR by the first n twos (0 to 40) of the ROW in SHELF p, by the PIE in SHELF s: WRONG; "
            + "NONE");
        PieFunnels x = with(0, 5);
        x.row(0, 2, 0);
        x.row(1, 2, 80);
        c.asks(x, NONE, "judge", 0, 1, 0);
        c.asks(x, NONE, "judge", 0, 1, 40);
        c.asks(x, -15, "judge", 0, 1, 41);
        x.set(1, 79, 1);
        c.asks(x, 39, "judge", 0, 1, 40);
        c.asks(x, NONE, "judge", 0, 1, 39);
        x.set(1, 1, 1);
        c.asks(x, 0, "judge", 0, 1, 40);
        c.asks(x, 0, "judge", 0, 1, 1);
        c.asks(x, NONE, "judge", 0, 1, 0);
        x.row(1, 2, 79);
        c.asks(x, -15, "judge", 0, 1, 40);
        c.asks(x, NONE, "judge", 0, 1, 39);
        x.row(1, 2, 82);
        c.asks(x, -16, "judge", 0, 1, 41);
        x.row(1, 2, 0);
        c.asks(x, NONE, "judge", 0, 1, 0);
        c.asks(x, -15, "judge", 0, 1, 1);
        x.row(1, 2, 1);
        c.asks(x, -15, "judge", 0, 1, 1);
    }

    private void judgeFirst() {
        c.sentence(0, "A told YEAR: a ROW of twos, a BIRD and the STATE it BRINGS by a told PIE, one behind the other: "
            + "WRONG: the first two that isn't so; NONE.");
        // no layers leave the STATE 0 as it is; what isn't a BIRD brings nothing, and 8 is no STATE
        long[][] wrong = {{1, 0}, {-1, 0}, {7, 0}, {Integer.MAX_VALUE, 0}, {0, 1}, {0, -1}, {0, 8}, {1, 1},
            {0, Integer.MIN_VALUE}};
        for (long[] two : wrong) {
            PieFunnels x = with(0, 5);
            x.row(0, 2, 0);
            x.row(1, 2, 10);
            x.set(1, 6, two[0]);
            x.set(1, 7, two[1]);
            x.set(1, 9, 5);
            c.asks(x, 3, "judge", 0, 1, 5);
            c.asks(x, 3, "judge", 0, 1, 4);
            c.asks(x, NONE, "judge", 0, 1, 3);
        }
    }

    private void judgeCarries() {
        c.sentence(0, "A told YEAR: a ROW of twos, a BIRD and the STATE it BRINGS by a told PIE, one behind the other");
        PieFunnels x = bringing(1, 4);
        x.ask(1, 6);
        // 1 more by BIRD 0, 4 more by BIRD 1, and 8 is 0 again
        Checks.fill(x, 1, 0, 7, 0, 0, 1, 4, 1, 0, 0, 1);
        c.asks(x, NONE, "judge", 0, 1, 5);
        for (int two = 0; two < 5; two++) {
            PieFunnels y = bringing(1, 4);
            y.ask(1, 6);
            Checks.fill(y, 1, 0, 7, 0, 0, 1, 4, 1, 0, 0, 1);
            y.set(1, 2 * two + 1, 6);
            c.asks(y, two, "judge", 0, 1, 5);
            c.asks(y, NONE, "judge", 0, 1, two);
        }
        c.asks(x, 6, "status", 2);
    }
}
