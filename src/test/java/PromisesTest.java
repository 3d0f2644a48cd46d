/** Each promise by answers worked out by hand from the document. */
public final class PromisesTest {
    private static final int MIN = Integer.MIN_VALUE;
    private static final int MAX = Integer.MAX_VALUE;

    private final Checks c = new Checks();

    public static void main(String[] args) {
        PromisesTest t = new PromisesTest();
        t.newObject();
        t.row();
        t.set();
        t.copy();
        t.copyRefused();
        t.element();
        t.showAndHolds();
        t.says();
        t.bird();
        t.ask();
        t.tableAndComes();
        t.birdOf();
        t.bakery();
        t.bakeryTellsInOrder();
        t.faults();
        t.faultsOfRoom();
        t.said();
        t.saidByHeat();
        t.saidRefused();
        t.brings();
        t.soonest();
        t.safe();
        t.fits();
        t.pies();
        t.next();
        t.chance();
        t.chanceRefused();
        t.minutes();
        t.after();
        t.kings();
        t.kingsOfEightLayers();
        t.tribes();
        t.tribesRefused();
        t.alike();
        t.judge();
        t.bake();
        t.years();
        t.seed();
        t.act();
        t.trace();
        t.imageAndRestore();
        t.status();
        t.c.end();
    }

    /** The seven KINDS in their order, each with an a and with MOUTH 3. */
    private static PieFunnels sevenBirds() {
        PieFunnels x = new PieFunnels();
        int[] as = {0, 2, 3, 4, 5, 6, 7};
        for (int kind = 0; kind < 7; kind++) {
            x.bird(kind, as[kind], 3);
        }
        return x;
    }

    private void refusals(PieFunnels x, int... counts) {
        for (int i = 0; i < 7; i++) {
            c.due("status(" + (11 + i) + ")", x.status(11 + i), i < counts.length ? counts[i] : 0);
        }
    }

    private void newObject() {
        c.about("1 a new object");
        PieFunnels x = new PieFunnels();
        int[] due = {0, 5, 0, 0, 0, 0, 1, 0};
        for (int what = 0; what < due.length; what++) {
            c.due("status(" + what + ")", x.status(what), due[what]);
        }
        refusals(x);
        for (int s = -1; s < 9; s++) {
            c.due("holds(" + s + ")", x.holds(s), -1);
        }
        for (int state = 0; state < 8; state++) {
            for (int root = 0; root < 5; root++) {
                c.due("comes(" + state + ", " + root + ")", x.comes(state, root), (state + root + 1) % 8);
            }
        }
        c.due("fault()", x.fault(), -1);
        c.due("trace(0)", x.trace(0), -1);
        c.due("birdOf(0, 0)", x.birdOf(0, 0), -5);
        c.due("restore()", x.restore(), -6);
        c.due("NONE", PieFunnels.NONE, -1);
    }

    private void row() {
        c.about("2 row");
        PieFunnels x = new PieFunnels();
        c.due("row(0, 0, 0)", x.row(0, 0, 0), 1);
        c.due("row(7, 3, 160)", x.row(7, 3, 160), 1);
        c.due("element(7, 159)", x.element(7, 159), 0);
        x.set(7, 159, 5);
        x.set(7, 0, 5);
        c.due("row(7, 3, 160) anew", x.row(7, 3, 160), 1);
        c.due("element(7, 159) of the new one", x.element(7, 159), 0);
        c.due("element(7, 0) of the new one", x.element(7, 0), 0);
        c.due("row(8, 9, -1)", x.row(8, 9, -1), -1);
        c.due("row(-1, 0, 1)", x.row(-1, 0, 1), -1);
        c.due("row(0, 9, -1)", x.row(0, 9, -1), -4);
        c.due("row(0, 4, 161)", x.row(0, 4, 161), -6);
        c.due("row(0, -1, 1)", x.row(0, -1, 1), -6);
        c.due("row(0, 3, 161)", x.row(0, 3, 161), -7);
        c.due("row(0, 3, MAX)", x.row(0, 3, MAX), -7);
        c.due("holds(0) is as it was", x.holds(0), 100);
        refusals(x, 2, 0, 0, 1, 0, 2, 2);
    }

    private void set() {
        c.about("3 set");
        PieFunnels x = new PieFunnels();
        long v = 0x123456789abcdef0L;
        long[] due = {(byte) 0xf0, (short) 0xdef0, (int) 0x9abcdef0L, v};
        for (int sort = 0; sort < 4; sort++) {
            x.row(sort, sort, 2);
            c.due("set", x.set(sort, 1, v), 1);
            c.due("element of SORT " + sort, x.element(sort, 1), due[sort]);
            c.due("its neighbour", x.element(sort, 0), 0);
        }
        c.due("set(0, 1, 384)", x.set(0, 1, 384), 1);
        c.due("element(0, 1)", x.element(0, 1), -128);
        x.bird(0, 0, 0);
        x.show(4, 0);
        c.due("set(8, 0, 0)", x.set(8, 0, 0), -1);
        c.due("set(4, 9, 0)", x.set(4, 9, 0), -2);
        c.due("set(5, 9, 0)", x.set(5, 9, 0), -3);
        c.due("set(0, 2, 0)", x.set(0, 2, 0), -5);
        c.due("set(0, -1, 0)", x.set(0, -1, 0), -5);
        refusals(x, 1, 1, 1, 0, 2);
    }

    private void copy() {
        c.about("4 copy");
        PieFunnels x = new PieFunnels();
        Checks.fill(x, 0, 1, 2, 3, 4, 5);
        Checks.fill(x, 1, 9, 9, 9);
        c.due("copy(0, 1, 2, 1, 2)", x.copy(0, 1, 2, 1, 2), 1);
        c.due("element(1, 0)", x.element(1, 0), 9);
        c.due("element(1, 1)", x.element(1, 1), 3);
        c.due("element(1, 2)", x.element(1, 2), 4);
        c.due("copy(0, 0, 0, 1, 4)", x.copy(0, 0, 0, 1, 4), 1);
        for (int i = 0; i < 5; i++) {
            c.due("element(0, " + i + ") behind a copy upwards", x.element(0, i), i == 0 ? 1 : i);
        }
        c.due("copy(0, 0, 1, 0, 4)", x.copy(0, 0, 1, 0, 4), 1);
        for (int i = 0; i < 5; i++) {
            c.due("element(0, " + i + ") behind a copy downwards", x.element(0, i), i == 4 ? 4 : i + 1);
        }
        c.due("copy(0, 1, 5, 3, 0)", x.copy(0, 1, 5, 3, 0), 1);
    }

    private void copyRefused() {
        c.about("4 copy, refused");
        PieFunnels x = new PieFunnels();
        Checks.fill(x, 0, 1, 2, 3);
        Checks.fillSort(x, 1, 3, 1, 2, 3);
        Checks.fill(x, 2, 7, 7);
        x.bird(0, 0, 0);
        x.show(3, 0);
        c.due("copy(8, 3, ..)", x.copy(8, 3, 0, 0, -1), -1);
        c.due("copy(3, -1, ..)", x.copy(3, -1, 0, 0, -1), -1);
        c.due("copy(3, 4, ..): a BIRD, and NOTHING", x.copy(3, 4, 0, 0, -1), -2);
        c.due("copy(4, 3, ..): NOTHING, and a BIRD", x.copy(4, 3, 0, 0, -1), -2);
        c.due("copy(0, 1, ..): two SORTS", x.copy(0, 1, 0, 0, -1), -2);
        c.due("copy(0, 4, ..)", x.copy(0, 4, 0, 0, -1), -3);
        c.due("copy(4, 1, ..)", x.copy(4, 1, 0, 0, -1), -3);
        c.due("copy(0, 2, -1, 9, -1)", x.copy(0, 2, -1, 9, -1), -4);
        c.due("copy(0, 2, -1, 0, 1)", x.copy(0, 2, -1, 0, 1), -5);
        c.due("copy(0, 2, 0, -1, 1)", x.copy(0, 2, 0, -1, 1), -5);
        c.due("copy(0, 2, 2, 0, 2)", x.copy(0, 2, 2, 0, 2), -5);
        c.due("copy(0, 2, 0, 1, 2)", x.copy(0, 2, 0, 1, 2), -5);
        c.due("copy(0, 2, 4, 0, 0)", x.copy(0, 2, 4, 0, 0), -5);
        c.due("copy(0, 2, 1, 1, MAX)", x.copy(0, 2, 1, 1, MAX), -5);
        c.due("copy(0, 2, MAX, MAX, MAX)", x.copy(0, 2, MAX, MAX, MAX), -5);
        c.due("element(2, 1) is as it was", x.element(2, 1), 7);
        refusals(x, 2, 3, 2, 1, 7);
    }

    private void element() {
        c.about("5 element");
        PieFunnels x = new PieFunnels();
        Checks.fillSort(x, 0, 3, 5, Long.MIN_VALUE);
        c.due("element(0, 1)", x.element(0, 1), Long.MIN_VALUE);
        c.due("element(0, 2)", x.element(0, 2), 0);
        c.due("element(0, -1)", x.element(0, -1), 0);
        c.due("element(1, 0)", x.element(1, 0), 0);
        c.due("element(8, 0)", x.element(8, 0), 0);
        x.bird(0, 0, 0);
        x.show(0, 0);
        c.due("element(0, 0) of a BIRD", x.element(0, 0), 0);
        refusals(x);
    }

    private void showAndHolds() {
        c.about("6, 7 show, holds");
        PieFunnels x = new PieFunnels();
        x.bird(2, 0, 0);
        x.bird(3, 0, 0);
        c.due("show(0, 1)", x.show(0, 1), 1);
        c.due("holds(0)", x.holds(0), 1);
        c.due("show(0, 2)", x.show(0, 2), -1);
        c.due("show(0, -2)", x.show(0, -2), -1);
        c.due("show(8, 0)", x.show(8, 0), -1);
        c.due("show(-1, -1)", x.show(-1, -1), -1);
        c.due("holds(0) is as it was", x.holds(0), 1);
        c.due("show(0, NONE)", x.show(0, -1), 0);
        c.due("holds(0)", x.holds(0), -1);
        for (int sort = 0; sort < 4; sort++) {
            x.row(1, sort, 0);
            c.due("holds(1)", x.holds(1), 100 + sort);
        }
        c.due("show(1, 0)", x.show(1, 0), 1);
        c.due("holds(1) of a BIRD where a ROW was", x.holds(1), 0);
        c.due("holds(MIN)", x.holds(MIN), -1);
        c.due("holds(MAX)", x.holds(MAX), -1);
        refusals(x, 4);
    }

    private void says() {
        c.about("8 says");
        PieFunnels x = sevenBirds();
        // by KIND wanted: 99 where the BIRD isn't of it; HEAT 5, so 3 layers are told of, and PRICKED's first is 0 + 5 + 3
        int[][] due = {{3, 99, 99, 99, 99, 99, 99}, {3, 2, 99, 99, 99, 99, 99}, {3, 99, 3, 99, 99, 99, 99},
            {3, 4, 99, 4, 99, 99, 99}, {3, 99, 99, 99, 8, 99, 99}, {3, 99, 6, 99, 99, 6, 99},
            {3, 7, 99, 7, 99, 99, 7}};
        int others = 0;
        for (int bird = 0; bird < 7; bird++) {
            x.show(0, bird);
            for (int kind = 0; kind < 7; kind++) {
                others += due[bird][kind] == 99 ? 1 : 0;
                c.due("says of " + bird + " as " + kind, x.says(0, kind), due[bird][kind] == 99 ? -12 : due[bird][kind]);
            }
        }
        x.ask(0, 1);
        x.show(0, 4);
        c.due("PRICKED by HEAT 1: 2 * 2 + 1 + 3", x.says(0, 4), 8);
        x.show(0, 5);
        c.due("TWICE by HEAT 1", x.says(0, 2), 2);
        x.ask(0, 0);
        x.show(0, 4);
        c.due("PRICKED by HEAT 0", x.says(0, 4), -1);
        x.row(1, 0, 1);
        c.due("says(1, 0) of a ROW", x.says(1, 0), -12);
        c.due("says(2, 0) of NOTHING", x.says(2, 0), -13);
        c.due("says(2, 7)", x.says(2, 7), -11);
        c.due("says(2, -1)", x.says(2, -1), -11);
        c.due("says(8, 0)", x.says(8, 0), -11);
        refusals(x, 3, others + 1, 1);
    }

    private void bird() {
        c.about("9 bird");
        PieFunnels x = new PieFunnels();
        c.due("bird(7, 10, 0)", x.bird(7, 10, 0), -1);
        c.due("bird(-1, 0, 0)", x.bird(-1, 0, 0), -1);
        c.due("bird(0, -1, 0)", x.bird(0, -1, 0), -6);
        c.due("bird(0, 10, 0)", x.bird(0, 10, 0), -6);
        c.due("bird(0, 0, -1)", x.bird(0, 0, -1), -6);
        c.due("bird(0, 0, 20)", x.bird(0, 0, 20), -6);
        for (int i = 0; i < 7; i++) {
            c.due("bird", x.bird(6, 9, 19), i);
        }
        c.due("bird(0, 10, 0) without room", x.bird(0, 10, 0), -6);
        c.due("bird(0, 0, 0) without room", x.bird(0, 0, 0), -7);
        c.due("status(0)", x.status(0), 7);
        refusals(x, 2, 0, 0, 0, 0, 5, 1);
    }

    private void ask() {
        c.about("10 ask");
        PieFunnels x = new PieFunnels();
        c.due("ask(0, 9)", x.ask(0, 9), 5);
        c.due("ask(0, 10)", x.ask(0, 10), -6);
        c.due("ask(0, -1)", x.ask(0, -1), -6);
        c.due("ask(0, 0)", x.ask(0, 0), 9);
        c.due("ask(1, 7)", x.ask(1, 7), 0);
        c.due("ask(1, 8)", x.ask(1, 8), -6);
        c.due("ask(1, 1)", x.ask(1, 1), 7);
        c.due("ask(2, 255)", x.ask(2, 255), 0);
        c.due("ask(2, 256)", x.ask(2, 256), -6);
        c.due("ask(2, -1)", x.ask(2, -1), -6);
        c.due("ask(2, 3)", x.ask(2, 3), 255);
        c.due("ask(2, 0)", x.ask(2, 0), 3);
        c.due("ask(2, 3)", x.ask(2, 3), 0);
        c.due("ask(1, 0)", x.ask(1, 0), 1);
        c.due("ask(1, 1)", x.ask(1, 1), 0);
        c.due("ask(3, 0)", x.ask(3, 0), -6);
        c.due("ask(-1, 0)", x.ask(-1, 0), -6);
        c.due("status(1)", x.status(1), 0);
        c.due("status(2)", x.status(2), 1);
        c.due("status(3)", x.status(3), 3);
        refusals(x, 0, 0, 0, 0, 0, 7);
    }

    private void tableAndComes() {
        c.about("11, 12 table, comes");
        PieFunnels x = new PieFunnels();
        c.due("table(7, 4, 0)", x.table(7, 4, 0), 4);
        c.due("table(7, 4, 7)", x.table(7, 4, 7), 0);
        c.due("comes(7, 4)", x.comes(7, 4), 7);
        c.due("comes(7, 3)", x.comes(7, 3), 3);
        c.due("comes(6, 4)", x.comes(6, 4), 3);
        int[][] wrong = {{-1, 0, 0}, {8, 0, 0}, {0, -1, 0}, {0, 5, 0}, {0, 0, -1}, {0, 0, 8}};
        for (int[] w : wrong) {
            c.due("table(" + w[0] + ", " + w[1] + ", " + w[2] + ")", x.table(w[0], w[1], w[2]), -6);
        }
        c.due("comes(0, 0) is as it was", x.comes(0, 0), 1);
        c.due("comes(-1, 0)", x.comes(-1, 0), -5);
        c.due("comes(8, 0)", x.comes(8, 0), -5);
        c.due("comes(0, -1)", x.comes(0, -1), -5);
        c.due("comes(0, 5)", x.comes(0, 5), -5);
        refusals(x, 0, 0, 0, 0, 4, 6);
    }

    private void birdOf() {
        c.about("13 birdOf");
        PieFunnels x = new PieFunnels();
        x.bird(5, 8, 17);
        c.due("birdOf(0, 0)", x.birdOf(0, 0), 5);
        c.due("birdOf(0, 1)", x.birdOf(0, 1), 8);
        c.due("birdOf(0, 2)", x.birdOf(0, 2), 17);
        c.due("birdOf(0, 3)", x.birdOf(0, 3), -5);
        c.due("birdOf(0, -1)", x.birdOf(0, -1), -5);
        c.due("birdOf(1, 0)", x.birdOf(1, 0), -5);
        c.due("birdOf(-1, 0)", x.birdOf(-1, 0), -5);
        refusals(x, 0, 0, 0, 0, 4);
    }

    private void bakery() {
        c.about("14 bakery");
        PieFunnels x = new PieFunnels();
        x.bird(0, 0, 0);
        Checks.text(x, 0, "bird 6 9 19;heat 0;state 7;goes 7 4 7;ill 7;ill 0;well 07;bird 00 01 02");
        c.due("bakery(0)", x.bakery(0), 8);
        c.due("fault()", x.fault(), -1);
        c.due("BIRDS", x.status(0), 3);
        c.due("KIND", x.birdOf(1, 0), 6);
        c.due("a", x.birdOf(1, 1), 9);
        c.due("MOUTH", x.birdOf(1, 2), 19);
        c.due("MOUTH of the last", x.birdOf(2, 2), 2);
        c.due("HEAT", x.status(1), 0);
        c.due("STATE", x.status(2), 7);
        c.due("TROUBLES", x.status(3), 1);
        c.due("comes(7, 4)", x.comes(7, 4), 7);
        x.show(1, 0);
        c.due("bakery(1) of a BIRD", x.bakery(1), -2);
        c.due("bakery(2) of NOTHING", x.bakery(2), -3);
        c.due("bakery(8)", x.bakery(8), -1);
        refusals(x, 1, 1, 1);
    }

    private void bakeryTellsInOrder() {
        c.about("14 bakery, all or nothing");
        PieFunnels x = new PieFunnels();
        Checks.text(x, 0, "heat 3;heat 4;ill 2;ill 2;goes 0 0 5;goes 0 0 6");
        c.due("bakery(0)", x.bakery(0), 6);
        c.due("the last HEAT holds", x.status(1), 4);
        c.due("TROUBLES", x.status(3), 4);
        c.due("comes(0, 0)", x.comes(0, 0), 6);
        Checks.text(x, 0, "bird 0 0 0;heat 9;state 3;goes 0 0 1;well 2;ill 8");
        c.due("bakery(0) with a FAULT", x.bakery(0), -6);
        c.due("fault()", x.fault(), 48);
        c.due("BIRDS", x.status(0), 0);
        c.due("HEAT", x.status(1), 4);
        c.due("STATE", x.status(2), 0);
        c.due("TROUBLES", x.status(3), 4);
        c.due("comes(0, 0)", x.comes(0, 0), 6);
        c.due("bakery(7) of NOTHING", x.bakery(7), -3);
        c.due("fault() of the latest that came to a ROW", x.fault(), 48);
        // letters are read as ints: of longs the lowest 32 bits
        Checks.fillSort(x, 0, 3, 'i' + (1L << 32), 'l', 'l', ' ', '1' - (1L << 40));
        c.due("bakery(0) of longs", x.bakery(0), 1);
        c.due("fault()", x.fault(), -1);
        c.due("TROUBLES", x.status(3), 6);
    }

    private void faults() {
        c.about("15 fault");
        String[] texts = {"", "x", "b", "biRd 1 1 1", "bird", "bird ", "bird 0", "bird  0 0 0", "bird 7 0 0", "bird 7",
            "bird 0 10 0", "bird 0 0 20", "bird 0 0 20x", "bird 0 0 193", "bird 0 0", "bird 0,0,0", "heat 10",
            "heat 1x", "heat 9 ", "heat 9;", "heat 9; ill 1", " heat 9", "heat 99", "heat 012", "state 8",
            "goes 8 0 0", "goes 0 5 0", "goes 0 0 8", "goes 1 2", "ill 8", "ille", "il", "well 10", "we",
            "heat 1;ill 1;stat", "heat -1", "heat 1;;ill 1", "ill 1ill 2", "Bird 0 0 0", "bird 0 0 19;ill 77;x"};
        int[] due = {0, 0, 1, 2, 4, 5, 6, 5, 5, 5,
            7, 9, 9, 11, 8, 6, 5,
            6, 6, 7, 7, 0, 5, 7, 6,
            5, 7, 9, 8, 4, 3, 2, 5, 2,
            17, 5, 7, 5, 0, 16};
        for (int i = 0; i < texts.length; i++) {
            PieFunnels x = new PieFunnels();
            c.due("bakery of <" + texts[i] + ">", Checks.text(x, 0, texts[i]).bakery(0), -6);
            c.due("fault of <" + texts[i] + ">", x.fault(), due[i]);
            c.due("refusals of <" + texts[i] + ">", x.status(16), 1);
        }
        PieFunnels x = new PieFunnels();
        Checks.fill(x, 0, 'i', 'l', 'l', ' ', -1);
        x.bakery(0);
        c.due("fault of an element -1", x.fault(), 4);
        Checks.text(x, 0, "ill 1");
        x.bakery(0);
        c.due("fault when there is none", x.fault(), -1);
    }

    private void faultsOfRoom() {
        c.about("15 fault of room");
        PieFunnels x = sevenBirds();
        String[] texts = {"bir", "birx", "bird", "birdx", "ill 1;bird 0 0 0", "bird 9"};
        int[] due = {3, 3, 0, 0, 6, 0};
        for (int i = 0; i < texts.length; i++) {
            c.due("bakery of <" + texts[i] + ">", Checks.text(x, 0, texts[i]).bakery(0), -6);
            c.due("fault of <" + texts[i] + ">", x.fault(), due[i]);
        }
        PieFunnels y = new PieFunnels();
        for (int i = 0; i < 6; i++) {
            y.bird(0, 0, 0);
        }
        c.due("room for one", Checks.text(y, 0, "bird 0 0 0;bird 0 0 0").bakery(0), -6);
        c.due("fault at the second", y.fault(), 11);
        c.due("none was told", y.status(0), 6);
        c.due("just the room there is", Checks.text(y, 0, "bird 0 0 0").bakery(0), 1);
    }

    private void said() {
        c.about("16 said");
        PieFunnels x = sevenBirds();
        Checks.fill(x, 0, 0, 9, 4, 2);
        int[][] due = {{8, 6, 16, 12}, {8, 7, 16, 13}, {12, 16, 6, 8}, {12, 11, 0, 17}, {6, 8, 12, 16},
            {12, 12, 16, 16, 6, 6, 8, 8}, {14, 0}};
        for (int bird = 0; bird < 7; bird++) {
            c.due("said(0, " + bird + ", NONE)", x.said(0, bird, -1), due[bird].length);
            for (int i = 0; i < due[bird].length; i++) {
                c.due("said(0, " + bird + ", " + i + ")", x.said(0, bird, i), due[bird][i]);
            }
            c.due("said behind the last", x.said(0, bird, due[bird].length), -5);
        }
        refusals(x, 0, 0, 0, 0, 7);
        PieFunnels y = new PieFunnels();
        y.bird(1, 0, 19);
        y.bird(1, 0, 13);
        y.ask(0, 1);
        Checks.fillSort(y, 0, 3, (7L << 32) + 0);
        c.due("a SIGN of 0 is a multiple of 3", y.said(0, 0, 0), 1);
        Checks.fill(y, 0, 2);
        c.due("18 is 1 more", y.said(0, 1, 0), 19);
    }

    private void saidByHeat() {
        c.about("16 said by HEAT");
        PieFunnels x = sevenBirds();
        Checks.fill(x, 0, 9, 8, 7, 6, 5, 4, 3, 2);
        int[] counts = {8, 8, 8, 8, 8, 16, 4};
        x.ask(0, 9);
        for (int bird = 0; bird < 7; bird++) {
            c.due("said(0, " + bird + ", NONE) by HEAT 9", x.said(0, bird, -1), counts[bird]);
        }
        x.ask(0, 3);
        int[] fewer = {3, 3, 3, 3, 3, 6, 1};
        for (int bird = 0; bird < 7; bird++) {
            c.due("said(0, " + bird + ", NONE) by HEAT 3", x.said(0, bird, -1), fewer[bird]);
        }
        c.due("QUICK begins with the third from below: 14 + 3 + 3", x.said(0, 2, 0), 0);
        x.ask(0, 0);
        c.due("said(0, 5, NONE) by HEAT 0", x.said(0, 5, -1), 0);
        c.due("said(0, 5, 0) by HEAT 0", x.said(0, 5, 0), -5);
        x.ask(0, 5);
        x.row(0, 0, 0);
        c.due("said of the PIE of no layers", x.said(0, 0, -1), 0);
    }

    private void saidRefused() {
        c.about("16 said, refused");
        PieFunnels x = new PieFunnels();
        x.bird(0, 0, 0);
        x.show(1, 0);
        Checks.fill(x, 2, 10);
        Checks.fill(x, 3, 1, 1, 1, 1, 1, 1, 1, 1, 1);
        Checks.fill(x, 4, 1, -1);
        Checks.fill(x, 5, 1);
        c.due("said(8, 0, 0)", x.said(8, 0, 0), -1);
        c.due("said(1, 1, 0)", x.said(1, 1, 0), -1);
        c.due("said(0, -1, 0)", x.said(0, -1, 0), -1);
        c.due("said(1, 0, 0)", x.said(1, 0, 0), -2);
        c.due("said(0, 0, 0)", x.said(0, 0, 0), -3);
        c.due("said(2, 0, 99): 10 is no STUFFING", x.said(2, 0, 99), -6);
        c.due("said(3, 0, 99): nine layers", x.said(3, 0, 99), -6);
        c.due("said(4, 0, NONE): NONE is no STUFFING", x.said(4, 0, -1), -6);
        c.due("said(5, 0, 1)", x.said(5, 0, 1), -5);
        c.due("said(5, 0, -2)", x.said(5, 0, -2), -5);
        c.due("said(5, 0, MAX)", x.said(5, 0, MAX), -5);
        refusals(x, 3, 1, 1, 0, 3, 3);
    }

    private void brings() {
        c.about("17 brings");
        PieFunnels x = sevenBirds();
        Checks.fill(x, 0, 0, 9, 4, 2);
        // SIGNS 8 6 16 12, ROOTS 3 1 1 2: 0, 4, 6, 0, 3
        c.due("brings(0, 0, 0)", x.brings(0, 0, 0), 3);
        x.ask(2, 1 << 0);
        c.due("the STATE at first is not behind a SIGN", x.brings(0, 0, 1), 1);
        x.ask(2, 1 << 4 | 1 << 3 | 1 << 7);
        c.due("brings(0, 0, 1)", x.brings(0, 0, 1), 2);
        x.table(0, 3, 7);
        // now 0, 7, 1, 3, 6
        c.due("by the TABLE as it is now", x.brings(0, 0, 0), 6);
        c.due("its ILLS", x.brings(0, 0, 1), 2);
        x.ask(1, 5);
        // 5, 1, 3, 5, 0
        c.due("from the STATE as it is now", x.brings(0, 0, 0), 0);
        c.due("status(2) is as it was", x.status(2), 5);
        x.show(1, 0);
        Checks.fill(x, 3, 10);
        c.due("brings(0, 7, 9)", x.brings(0, 7, 9), -1);
        c.due("brings(-1, 0, 9)", x.brings(-1, 0, 9), -1);
        c.due("brings(1, 0, 9)", x.brings(1, 0, 9), -2);
        c.due("brings(2, 0, 9)", x.brings(2, 0, 9), -3);
        c.due("brings(3, 0, 2)", x.brings(3, 0, 2), -5);
        c.due("brings(0, 0, -1)", x.brings(0, 0, -1), -5);
        c.due("brings(3, 0, 1)", x.brings(3, 0, 1), -6);
        refusals(x, 2, 1, 1, 0, 2, 1);
    }

    private void soonest() {
        c.about("18 soonest");
        PieFunnels x = new PieFunnels();
        x.bird(0, 0, 0);
        // HEAT 5: the ROOT of a layer is twice its STUFFING modulo 5; 0 brings 1, 3 brings 2, 1 brings 3, 4 brings 4, 2 brings 5
        int[] first = {-1, 0, 3, 1, 4, 2};
        c.due("soonest(0, 0, NONE)", x.soonest(0, 0, -1), 0);
        for (int state = 1; state < 6; state++) {
            c.due("soonest(0, " + state + ", NONE)", x.soonest(0, state, -1), 1);
            c.due("soonest(0, " + state + ", 0)", x.soonest(0, state, 0), first[state]);
        }
        // 6 from 0 by two: ROOTS together 4; 0 (ROOT 0), then ROOT 4: 2
        c.due("soonest(0, 6, NONE)", x.soonest(0, 6, -1), 2);
        c.due("soonest(0, 6, 0)", x.soonest(0, 6, 0), 0);
        c.due("soonest(0, 6, 1)", x.soonest(0, 6, 1), 2);
        c.due("soonest(0, 6, 2)", x.soonest(0, 6, 2), -15);
        c.due("soonest(0, 0, 0)", x.soonest(0, 0, 0), -15);
        for (int state = 0; state < 8; state++) {
            for (int root = 0; root < 5; root++) {
                x.table(state, root, state == 7 ? 7 : Math.min(state + 1, 6));
            }
        }
        c.due("three layers", x.soonest(0, 3, -1), 3);
        c.due("the first of them by rows", x.soonest(0, 3, 2), 0);
        c.due("no PIE of three", x.soonest(0, 4, -1), -1);
        c.due("none, its 0th", x.soonest(0, 4, 0), -15);
        c.due("soonest(1, 9, 9)", x.soonest(1, 9, 9), -11);
        c.due("soonest(0, 8, 9)", x.soonest(0, 8, 9), -16);
        c.due("soonest(0, -1, 9)", x.soonest(0, -1, 9), -16);
        c.due("soonest(0, 3, -2)", x.soonest(0, 3, -2), -15);
        refusals(x, 1, 0, 0, 0, 4, 2);
    }

    private void safe() {
        c.about("19 safe");
        PieFunnels x = new PieFunnels();
        x.bird(0, 0, 0);
        x.bird(6, 0, 0);
        c.due("no TROUBLES", x.safe(0), 100);
        // each ROOT is that of two STUFFINGS; ROOT 1 first brings 2, by 20 PIES; ROOTS 0 0 or 4 4 bring 2 second, by 8
        x.ask(2, 1 << 2);
        c.due("safe(0)", x.safe(0), 72);
        x.ask(2, 255);
        c.due("all STATES ill", x.safe(0), 0);
        x.ask(2, 1 << 7);
        // CHILD hears the second layer alone, and 7 isn't brought by one SIGN
        c.due("safe(1)", x.safe(1), 100);
        x.ask(0, 1);
        x.ask(2, 255);
        c.due("CHILD says nothing by HEAT 1", x.safe(1), 100);
        c.due("safe(2)", x.safe(2), -1);
        c.due("safe(-1)", x.safe(-1), -1);
        refusals(x, 2);
    }

    private void fits() {
        c.about("20 fits");
        PieFunnels x = sevenBirds();
        Checks.fill(x, 0, 0, 9, 4, 2);
        int[][] all = {{8, 6, 16, 12}, {8, 7, 16, 13}, {12, 16, 6, 8}, {12, 11, 0, 17}, {6, 8, 12, 16},
            {12, 12, 16, 16, 6, 6, 8, 8}, {14, 0}};
        for (int kind = 0; kind < 7; kind++) {
            x.row(1, 3, all[kind].length);
            for (int i = 0; i < all[kind].length; i++) {
                x.set(1, i, all[kind][i]);
            }
            c.due("KINDS by what " + kind + " says", x.fits(0, 1, kind, 0), 1 << kind);
            // CHILD says 14 of 6 as of 7, and 0 of 12 as of 13
            c.due("MOUTHS by what " + kind + " says", x.fits(0, 1, kind, 2), kind == 6 ? 1 << 3 | 1 << 4 : 1 << 3);
            c.due("HEATS by what " + kind + " says", x.fits(0, 1, kind, 1), kind == 6 ? 1 << 5 | 1 << 6 : 1 << 5);
        }
        x.row(2, 0, 0);
        c.due("KINDS when nothing is said of no layers", x.fits(2, 2, 0, 0), 127);
        c.due("HEATS", x.fits(2, 2, 0, 1), 1023);
        c.due("MOUTHS", x.fits(2, 2, 0, 2), (1 << 20) - 1);
        c.due("HEATS at which a layer isn't told of", x.fits(0, 2, 0, 1), 1);
        c.due("HEATS at which CHILD says nothing", x.fits(0, 2, 6, 1), 3);
        Checks.fill(x, 1, 8, 6, 16, 32);
        c.due("32 is no SIGN", x.fits(0, 1, 0, 0), 0);
        fitsRefused(x);
    }

    private void fitsRefused(PieFunnels x) {
        x.show(3, 0);
        Checks.fill(x, 4, 10);
        c.due("fits(8, 3, 0, 9)", x.fits(8, 3, 0, 9), -1);
        c.due("fits(3, 8, 0, 9)", x.fits(3, 8, 0, 9), -1);
        c.due("fits(3, 3, 7, 9)", x.fits(3, 3, 7, 9), -1);
        c.due("fits(3, 5, 0, 9)", x.fits(3, 5, 0, 9), -2);
        c.due("fits(5, 3, 0, 9)", x.fits(5, 3, 0, 9), -2);
        c.due("fits(5, 1, 0, 9)", x.fits(5, 1, 0, 9), -3);
        c.due("fits(0, 5, 0, 9)", x.fits(0, 5, 0, 9), -3);
        c.due("fits(4, 1, 0, 3)", x.fits(4, 1, 0, 3), -5);
        c.due("fits(0, 1, 0, -1)", x.fits(0, 1, 0, -1), -5);
        c.due("fits(4, 1, 0, 2)", x.fits(4, 1, 0, 2), -6);
        refusals(x, 3, 2, 2, 0, 2, 1);
    }

    private void pies() {
        c.about("21 pies");
        PieFunnels x = sevenBirds();
        // PRICKED by HEAT 5 and MOUTH 3: twice the STUFFING and 8; 10 and 12 and 12 are of the STUFFINGS 1, 2, 2 in any order
        Checks.fill(x, 0, 10, 12, 12);
        c.due("pies(0, 4, 3, NONE)", x.pies(0, 4, 3, -1), 3);
        c.due("pies(0, 4, 3, 0)", x.pies(0, 4, 3, 0), 1);
        c.due("pies(0, 4, 3, 2)", x.pies(0, 4, 3, 2), 2);
        c.due("pies(0, 4, 2, NONE)", x.pies(0, 4, 2, -1), 0);
        c.due("pies(0, 4, 2, 1)", x.pies(0, 4, 2, 1), -1);
        x.ask(0, 2);
        // by HEAT 2 the third layer isn't told of: 2 * 1 + 5 and 2 * 0 + 5
        Checks.fill(x, 0, 7, 5);
        c.due("the third layer is any", x.pies(0, 0, 3, -1), 10);
        c.due("the first of them", x.pies(0, 0, 3, 2), 0);
        c.due("QUICK: 0, 1 from below", x.pies(0, 2, 2, 0), 0);
        x.row(1, 2, 0);
        c.due("nothing said of no layers", x.pies(1, 0, 0, -1), 1);
        c.due("pies(1, 0, 0, 0)", x.pies(1, 0, 0, 0), -15);
        c.due("CHILD of one layer", x.pies(1, 6, 1, -1), 10);
        x.show(2, 0);
        c.due("pies(8, 0, 9, 9)", x.pies(8, 0, 9, 9), -11);
        c.due("pies(2, 7, 9, 9)", x.pies(2, 7, 9, 9), -11);
        c.due("pies(2, 0, 9, 9)", x.pies(2, 0, 9, 9), -12);
        c.due("pies(3, 0, 9, 9)", x.pies(3, 0, 9, 9), -13);
        c.due("pies(1, 0, 4, 9)", x.pies(1, 0, 4, 9), -16);
        c.due("pies(1, 0, -1, 9)", x.pies(1, 0, -1, 9), -16);
        c.due("pies(1, 0, 2, 2)", x.pies(1, 0, 2, 2), -15);
        c.due("pies(1, 0, 2, -2)", x.pies(1, 0, 2, -2), -15);
        refusals(x, 2, 1, 1, 0, 3, 2);
    }

    private void next() {
        c.about("22 next");
        PieFunnels x = new PieFunnels();
        x.bird(0, 1, 1);
        x.bird(3, 0, 2);
        // HEAT 5, MOUTH 1, a 1: STUFFING 0 is 6: 6 by three, 7 by CHIPPED, 8 by WIDOW
        c.due("next(0)", x.next(0), 0);
        // HEAT 5, MOUTH 2, a 0: 7 of 0 is by five alike; 9 of 1 is 10 by CHIPPED and WIDOW: three at most
        c.due("next(1)", x.next(1), 1);
        x.bird(6, 5, 4);
        x.bird(0, 0, 11);
        x.ask(0, 1);
        // MOUTH 4, a 5: 5 of 0 is 5 by four (CHIPPED too), 7 of 1 likewise, 9 of 2 is 10 by CHIPPED, 15 by WIDOW
        c.due("next(2)", x.next(2), 2);
        // MOUTH 11, a 0: 12 of 0 is 13 by CHIPPED and WIDOW
        c.due("next(3)", x.next(3), 0);
        x.ask(0, 0);
        c.due("never parted", x.next(1), -1);
        c.due("next(4)", x.next(4), -11);
        c.due("next(-1)", x.next(-1), -11);
        refusals(x, 2);
    }

    private void chance() {
        c.about("23 chance");
        PieFunnels x = new PieFunnels();
        x.bird(0, 0, 0);
        Checks.fill(x, 0, -1);
        for (int state = 0; state < 8; state++) {
            c.due("chance(0, 0, " + state + ", 0)", x.chance(0, 0, state, 0), state >= 1 && state <= 5 ? 200000 : 0);
        }
        Checks.fillSort(x, 1, 0, 255, 255);
        // two ROOTS of 0 to 4: their sum and 2 is 6 by 5 of 25, 3 by 2 of 25 (0 and 1), 2 by 2 of 25 (0 0 and 4 4: 10)
        c.due("chance(1, 0, 6, 0)", x.chance(1, 0, 6, 0), 200000);
        c.due("chance(1, 0, 3, 0)", x.chance(1, 0, 3, 0), 80000);
        c.due("chance(1, 0, 2, 0)", x.chance(1, 0, 2, 0), 80000);
        x.ask(2, 1 << 6);
        c.due("HOPE of two: 6 is behind the second alone", x.chance(1, 0, 99, 1), 200);
        x.ask(2, 1 << 6 | 1 << 2);
        c.due("HOPE of two: and 2 behind the first by 1 of 5, behind the second by 2 of 25", x.chance(1, 0, -1, 1), 480);
        Checks.fill(x, 2, 0, -1, -1, -1, 0, 0, 0, 0);
        c.due("all comes from one of all", x.chance(2, 0, 0, 0) + x.chance(2, 0, 1, 0) + x.chance(2, 0, 2, 0)
            + x.chance(2, 0, 3, 0) + x.chance(2, 0, 4, 0) + x.chance(2, 0, 5, 0) + x.chance(2, 0, 6, 0)
            + x.chance(2, 0, 7, 0), 1000000);
        x.bird(2, 0, 1);
        c.due("MOUTH 1 of 0 unknown: ROOT 1 and any", x.chance(0, 1, 3, 0), 200000);
        Checks.fill(x, 3, 3);
        c.due("MOUTH 1 of 3: SIGN 12", x.chance(3, 1, 3, 0), 1000000);
        c.due("nothing is unknown", x.chance(3, 0, 2, 0), 1000000);
        c.due("nothing is unknown, HOPE", x.chance(3, 0, 2, 1), 1000);
    }

    private void chanceRefused() {
        c.about("23 chance, refused");
        PieFunnels x = new PieFunnels();
        x.bird(0, 0, 0);
        x.show(0, 0);
        Checks.fill(x, 1, -1, -1, -1, -1);
        Checks.fill(x, 2, -2);
        Checks.fill(x, 3, 1, 1, 1, 1, 1, 1, 1, 1, -1);
        Checks.fill(x, 4, -1);
        c.due("chance(8, 0, 9, 9)", x.chance(8, 0, 9, 9), -1);
        c.due("chance(0, 1, 9, 9)", x.chance(0, 1, 9, 9), -1);
        c.due("chance(0, 0, 9, 9)", x.chance(0, 0, 9, 9), -2);
        c.due("chance(7, 0, 9, 9)", x.chance(7, 0, 9, 9), -3);
        c.due("chance(1, 0, 9, 2)", x.chance(1, 0, 9, 2), -5);
        c.due("chance(4, 0, 0, -1)", x.chance(4, 0, 0, -1), -5);
        c.due("four unknown", x.chance(1, 0, 0, 0), -6);
        c.due("four unknown, HOPE", x.chance(1, 0, 0, 1), -6);
        c.due("-2 is no layer", x.chance(2, 0, 0, 0), -6);
        c.due("nine layers", x.chance(3, 0, 0, 0), -6);
        c.due("chance(4, 0, 8, 0)", x.chance(4, 0, 8, 0), -6);
        c.due("chance(4, 0, -1, 0)", x.chance(4, 0, -1, 0), -6);
        refusals(x, 2, 1, 1, 0, 2, 6);
    }

    private void minutes() {
        c.about("24 minutes");
        PieFunnels x = new PieFunnels();
        x.bird(0, 0, 0);
        Checks.fill(x, 0, 0, 0);
        c.due("no TROUBLES", x.minutes(0, 0), 0);
        // HEAT 5: ROOT 0, 0: 1, 2. HEAT 4: ROOT 4, 4: 5, 2. HEAT 3: 4, 0. HEAT 2: 3, 6. HEAT 1: 2 alone
        x.ask(2, 1 << 1);
        c.due("1 is ill", x.minutes(0, 0), 1);
        x.ask(2, 1 << 2);
        c.due("2 is ill", x.minutes(0, 0), 2);
        x.ask(2, 1 << 2 | 1 << 4);
        c.due("2 and 4 are ill", x.minutes(0, 0), 3);
        x.bird(6, 0, 0);
        c.due("CHILD by HEAT 5: ROOT 0, 1", x.minutes(0, 1), 0);
        c.due("BIRD behind CHILD", x.minutes(0, 0), 3);
        x.ask(2, 255);
        c.due("all are ill", x.minutes(0, 0), 5);
        c.due("status(1) is as it was", x.status(1), 5);
        x.show(1, 0);
        Checks.fill(x, 3, 10);
        c.due("minutes(8, 0)", x.minutes(8, 0), -11);
        c.due("minutes(1, 2)", x.minutes(1, 2), -11);
        c.due("minutes(1, 0)", x.minutes(1, 0), -12);
        c.due("minutes(2, 0)", x.minutes(2, 0), -13);
        c.due("minutes(3, 0)", x.minutes(3, 0), -16);
        refusals(x, 2, 1, 1, 0, 0, 1);
    }

    private void after() {
        c.about("25 after");
        PieFunnels x = new PieFunnels();
        x.bird(0, 0, 0);
        Checks.fill(x, 0, 1);
        for (int n = 0; n <= 40; n++) {
            c.due("after(0, 0, " + n + ")", x.after(0, 0, n), 3 * n % 8);
        }
        x.ask(1, 4);
        c.due("from the STATE there is", x.after(0, 0, 2), 2);
        x.bird(5, 0, 3);
        // TWICE by MOUTH 3: SIGNS 10 10, so 2 more by each
        c.due("the BIRD that is asked", x.after(0, 1, 3), 2);
        c.due("the BIRD that is asked", x.after(0, 0, 3), 5);
        c.due("status(2) is as it was", x.status(2), 4);
        x.show(1, 0);
        Checks.fill(x, 3, 10);
        c.due("after(8, 0, 99)", x.after(8, 0, 99), -1);
        c.due("after(1, 2, 99)", x.after(1, 2, 99), -1);
        c.due("after(1, 0, 99)", x.after(1, 0, 99), -2);
        c.due("after(2, 0, 99)", x.after(2, 0, 99), -3);
        c.due("after(3, 0, 0)", x.after(3, 0, 0), -6);
        c.due("after(0, 0, 41)", x.after(0, 0, 41), -6);
        c.due("after(0, 0, -1)", x.after(0, 0, -1), -6);
        refusals(x, 2, 1, 1, 0, 0, 3);
    }

    private void kings() {
        c.about("26 kings");
        PieFunnels x = new PieFunnels();
        x.bird(0, 0, 0);
        Checks.fill(x, 0, 0);
        c.due("no TROUBLES: ILLS", x.kings(0, 0, 0), 0);
        c.due("no TROUBLES: by the least HEAT", x.kings(0, 0, 1), 0);
        x.ask(2, 255);
        c.due("all ill, one layer", x.kings(0, 0, 0), 1);
        c.due("by HEAT", x.kings(0, 0, 1), 1);
        Checks.fill(x, 0, 0, 0, 9);
        c.due("all ill, three layers", x.kings(0, 0, 0), 3);
        c.due("by HEAT", x.kings(0, 0, 1), 3);
        Checks.fill(x, 0, 0);
        x.ask(2, 31 << 1);
        // from 0 one SIGN brings one of 1 to 5, and the other king chooses which
        c.due("all that one layer may bring are ill", x.kings(0, 0, 0), 1);
        c.due("by HEAT", x.kings(0, 0, 1), 1);
        for (int well = 1; well < 6; well++) {
            x.ask(2, 255 - (1 << well));
            c.due("all but " + well, x.kings(0, 0, 0), 0);
        }
        x.ask(2, 1 << 4);
        // the first layer brings 4 by ROOT 3, so by HEAT 3 or 8; the last need not bring it again
        Checks.fill(x, 0, 0, 0, 9);
        c.due("4 is ill", x.kings(0, 0, 0), 1);
        c.due("by HEAT", x.kings(0, 0, 1), 3);
        c.due("the PIE is as it was", x.element(0, 2), 9);
        c.due("HEAT is as it was", x.status(1), 5);
        x.show(1, 0);
        Checks.fill(x, 3, 10);
        x.row(4, 0, 0);
        c.due("kings(8, 0, 9)", x.kings(8, 0, 9), -1);
        c.due("kings(1, 1, 9)", x.kings(1, 1, 9), -1);
        c.due("kings(1, 0, 9)", x.kings(1, 0, 9), -2);
        c.due("kings(2, 0, 9)", x.kings(2, 0, 9), -3);
        c.due("kings(4, 0, 2)", x.kings(4, 0, 2), -5);
        c.due("kings(0, 0, -1)", x.kings(0, 0, -1), -5);
        c.due("kings(3, 0, 0)", x.kings(3, 0, 0), -6);
        c.due("no layers", x.kings(4, 0, 1), -6);
        refusals(x, 2, 1, 1, 0, 2, 2);
    }

    private void kingsOfEightLayers() {
        c.about("26 kings of eight layers");
        PieFunnels x = new PieFunnels();
        x.bird(0, 0, 0);
        Checks.fill(x, 0, 0, 0, 0, 0, 0, 0, 0, 0);
        // a SIGN more, a STATE more; from 7 only ROOT 0 leads out, and the other king takes it by the last layer
        for (int state = 0; state < 8; state++) {
            for (int root = 0; root < 5; root++) {
                x.table(state, root, state < 7 ? state + 1 : root == 0 ? 0 : 7);
            }
        }
        x.ask(2, 1 << 7);
        c.due("7 is ill", x.kings(0, 0, 0), 1);
        c.due("by HEAT", x.kings(0, 0, 1), 7);
        x.ask(2, 1 << 7 | 1);
        c.due("7 and 0 are ill", x.kings(0, 0, 0), 2);
        c.due("by HEAT", x.kings(0, 0, 1), 8);
    }

    private void tribes() {
        c.about("27 tribes");
        PieFunnels x = new PieFunnels();
        // of the PIE 0 by HEAT 5: the MOUTH is the ROOT: 0 brings 1, 2 brings 3
        x.bird(0, 0, 2);
        x.bird(0, 0, 0);
        x.bird(0, 0, 2);
        x.bird(0, 0, 7);
        Checks.fill(x, 0, 0);
        Checks.fill(x, 1, 3, 1, 5, 3, 1, 3, 3);
        c.due("how many", x.tribes(0, 1, -1), 4);
        int[] due = {0, 1, -1, 2, -1, 3, -1};
        for (int i = 0; i < 7; i++) {
            c.due("tribes(0, 1, " + i + ")", x.tribes(0, 1, i), due[i]);
        }
        c.due("tribes(0, 1, 7)", x.tribes(0, 1, 7), -15);
        c.due("tribes(0, 1, -2)", x.tribes(0, 1, -2), -15);
        x.row(2, 0, 0);
        c.due("no tribes", x.tribes(0, 2, -1), 0);
        c.due("no tribes, the 0th", x.tribes(0, 2, 0), -15);
        Checks.fill(x, 3, 0);
        c.due("no layers leave the STATE as it is", x.tribes(2, 3, 0), 0);
        PieFunnels y = new PieFunnels();
        Checks.fill(y, 0, 0);
        Checks.fill(y, 1, 1);
        c.due("no BIRDS", y.tribes(0, 1, -1), 0);
        c.due("no BIRDS", y.tribes(0, 1, 0), -1);
        refusals(x, 0, 0, 0, 0, 3);
    }

    private void tribesRefused() {
        c.about("27 tribes, refused");
        PieFunnels x = new PieFunnels();
        x.bird(0, 0, 0);
        x.show(0, 0);
        Checks.fill(x, 1, 10);
        Checks.fill(x, 2, 8);
        Checks.fill(x, 3, 1, 1, 1, 1, 1, 1, 1, 1);
        Checks.fill(x, 4, 1);
        Checks.fill(x, 5, -1);
        c.due("tribes(8, 0, 99)", x.tribes(8, 0, 99), -11);
        c.due("tribes(0, 8, 99)", x.tribes(0, 8, 99), -11);
        c.due("tribes(0, 7, 99)", x.tribes(0, 7, 99), -12);
        c.due("tribes(7, 0, 99)", x.tribes(7, 0, 99), -12);
        c.due("tribes(7, 1, 99)", x.tribes(7, 1, 99), -13);
        c.due("tribes(1, 7, 99)", x.tribes(1, 7, 99), -13);
        c.due("no PIE", x.tribes(1, 4, 99), -16);
        c.due("no STATE", x.tribes(4, 2, 99), -16);
        c.due("no STATE", x.tribes(4, 5, 99), -16);
        c.due("eight tribes", x.tribes(4, 3, 99), -16);
        c.due("no such tribe", x.tribes(4, 4, 99), -15);
        refusals(x, 2, 2, 2, 0, 1, 4);
    }

    private void alike() {
        c.about("28 alike");
        PieFunnels x = sevenBirds();
        c.due("alike(0, 0)", x.alike(0, 0), 100);
        // the SIGNS of the STUFFINGS are 8 10 12 14 16 18 0 2 4 6; four of them are multiples of 3, so six by six are alike
        c.due("alike(0, 1)", x.alike(0, 1), 36);
        c.due("alike(1, 0)", x.alike(1, 0), 36);
        c.due("QUICK: both layers the same", x.alike(0, 2), 10);
        c.due("PRICKED: in order already", x.alike(0, 4), 55);
        c.due("TWICE says more", x.alike(2, 5), 0);
        x.ask(0, 0);
        c.due("none says anything", x.alike(5, 6), 100);
        x.ask(0, 1);
        c.due("QUICK of one layer", x.alike(0, 2), 100);
        c.due("alike(0, 7)", x.alike(0, 7), -1);
        c.due("alike(7, 0)", x.alike(7, 0), -1);
        c.due("alike(-1, -1)", x.alike(-1, -1), -1);
        refusals(x, 3);
    }

    private void judge() {
        c.about("29 judge");
        PieFunnels x = new PieFunnels();
        x.bird(0, 0, 0);
        x.bird(0, 0, 2);
        // of the PIE 0: BIRD 0 brings 1 more, BIRD 1 brings 3 more, each from the STATE that came ahead
        Checks.fill(x, 0, 0);
        Checks.fill(x, 1, 0, 1, 1, 4, 1, 7, 0, 0, 0);
        c.due("judge(0, 1, 4)", x.judge(0, 1, 4), -1);
        c.due("judge(0, 1, 0)", x.judge(0, 1, 0), -1);
        c.due("judge(0, 1, 5): half of the last isn't there", x.judge(0, 1, 5), -15);
        x.set(1, 5, 6);
        c.due("the third is wrong", x.judge(0, 1, 4), 2);
        c.due("the third isn't asked for", x.judge(0, 1, 2), -1);
        x.set(1, 2, 2);
        c.due("no such BIRD", x.judge(0, 1, 4), 1);
        x.set(1, 2, -1);
        c.due("no such BIRD", x.judge(0, 1, 4), 1);
        x.set(1, 1, 9);
        c.due("no such STATE", x.judge(0, 1, 4), 0);
        x.row(2, 0, 160);
        c.due("40 twos", x.judge(0, 2, 40), 0);
        c.due("41 twos", x.judge(0, 2, 41), -16);
        c.due("81 twos", x.judge(0, 2, 81), -15);
        c.due("MAX twos", x.judge(0, 2, MAX), -15);
        c.due("1 << 30 twos", x.judge(0, 2, 1 << 30), -15);
        Checks.fill(x, 3, 10);
        x.show(4, 0);
        c.due("judge(8, 4, -1)", x.judge(8, 4, -1), -11);
        c.due("judge(4, 8, -1)", x.judge(4, 8, -1), -11);
        c.due("judge(4, 7, -1)", x.judge(4, 7, -1), -12);
        c.due("judge(7, 4, -1)", x.judge(7, 4, -1), -12);
        c.due("judge(7, 1, -1)", x.judge(7, 1, -1), -13);
        c.due("judge(3, 7, -1)", x.judge(3, 7, -1), -13);
        c.due("judge(3, 1, -1)", x.judge(3, 1, -1), -14);
        c.due("judge(3, 1, 5)", x.judge(3, 1, 5), -15);
        c.due("judge(3, 1, 0)", x.judge(3, 1, 0), -16);
        refusals(x, 2, 2, 2, 1, 5, 2);
    }

    private void bake() {
        c.about("30 bake");
        PieFunnels x = new PieFunnels();
        x.bird(0, 0, 3);
        Checks.fill(x, 0, 0, 9, 4, 2);
        x.ask(2, 1 << 4 | 1 << 3);
        // 0, 4, 6, 0, 3, then 3, 7, 1, 3, 6
        c.due("bake(0, 0)", x.bake(0, 0), 3);
        c.due("SUFFERED", x.status(5), 2);
        c.due("bake(0, 0)", x.bake(0, 0), 6);
        c.due("SUFFERED", x.status(5), 3);
        c.due("BAKES", x.status(4), 2);
        c.due("STATE", x.status(2), 6);
        x.show(1, 0);
        Checks.fill(x, 3, -1);
        c.due("bake(8, 0)", x.bake(8, 0), -1);
        c.due("bake(1, 1)", x.bake(1, 1), -1);
        c.due("bake(1, 0)", x.bake(1, 0), -2);
        c.due("bake(2, 0)", x.bake(2, 0), -3);
        c.due("bake(3, 0)", x.bake(3, 0), -6);
        c.due("BAKES are as they were", x.status(4), 2);
        refusals(x, 2, 1, 1, 0, 0, 1);
    }

    private void years() {
        c.about("31 years");
        PieFunnels x = new PieFunnels();
        c.due("years(0) without BIRDS", x.years(0), -5);
        x.bird(0, 0, 0);
        x.ask(2, 255);
        c.due("years(0)", x.years(0), -6);
        c.due("years(61)", x.years(61), -6);
        c.due("years(-1)", x.years(-1), -6);
        c.due("SEED is as it was", x.status(6), 1);
        int seed = 1;
        int suffered = 0;
        int state = 0;
        int heat = 5;
        for (int year = 0; year < 60; year++) {
            int[] draws = new int[5];
            int[] below = {1, 10, 10, 10, 10};
            for (int i = 0; i < 5; i++) {
                seed = seed * 1103515245 + 12345;
                draws[i] = (seed >> 16 & 0xffff) % below[i];
            }
            heat = draws[1];
            for (int layer = 0; layer < 3 && layer < heat; layer++) {
                state = (state + (2 * draws[2 + layer] + heat) % 20 % 5 + 1) % 8;
                suffered++;
            }
        }
        c.due("years(60)", x.years(60), suffered);
        c.due("STATE", x.status(2), state);
        c.due("HEAT", x.status(1), heat);
        c.due("BAKES", x.status(4), 60);
        c.due("SUFFERED", x.status(5), suffered);
        c.due("SEED", x.status(6), seed);
        refusals(x, 0, 0, 0, 0, 1, 3);
    }

    private void seed() {
        c.about("32 seed");
        PieFunnels x = new PieFunnels();
        c.due("seed(MIN)", x.seed(MIN), 1);
        c.due("seed(MAX)", x.seed(MAX), MIN);
        c.due("seed(0)", x.seed(0), MAX);
        x.bird(0, 0, 0);
        x.bird(0, 0, 0);
        x.years(1);
        c.due("SEED behind five DRAWS from 0", x.status(6), ((((12345 * 1103515245 + 12345) * 1103515245 + 12345)
            * 1103515245 + 12345) * 1103515245 + 12345));
        refusals(x);
    }

    private void act() {
        c.about("33 act");
        PieFunnels x = new PieFunnels();
        int[][] birds = {{0, 4}, {1, 3}, {2, 2}, {3, 5}, {4, 6}, {5, 1}, {6, 2}};
        for (int[] b : birds) {
            x.bird(b[0], b[1], 11);
        }
        c.due("BIRD sings: 10 + 0", x.act(0, 0, 10), 10);
        c.due("BIRD steams", x.act(0, 1, 10), 20);
        c.due("BIRD falls: 20 ^ 6", x.act(0, 2, 10), 20 ^ 6);
        c.due("CHIPPED sings: 10 + 1 + 3", x.act(1, 0, 10), 14);
        c.due("CHIPPED steams", x.act(1, 1, 10), 28);
        c.due("CHIPPED falls", x.act(1, 2, 10), 28 ^ 11);
        c.due("QUICK sings", x.act(2, 0, 10), 12);
        c.due("QUICK steams: 24 * 3", x.act(2, 1, 10), 72);
        c.due("QUICK falls", x.act(2, 2, 10), 72 ^ 10);
        c.due("WIDOW sings: 11 + 3 + 5", x.act(3, 0, 10), 19);
        c.due("WIDOW steams", x.act(3, 1, 10), 38);
        c.due("WIDOW falls", x.act(3, 2, 10), 38 ^ 14);
        c.due("PRICKED sings: 14 - 4", x.act(4, 0, 10), 10);
        c.due("PRICKED steams", x.act(4, 1, 10), 20);
        c.due("PRICKED falls", x.act(4, 2, 10), -(20 ^ 4));
        c.due("TWICE sings", x.act(5, 0, 10), 15);
        c.due("TWICE steams: 30 * 3", x.act(5, 1, 10), 90);
        c.due("TWICE falls", x.act(5, 2, 10), 90 ^ 14 ^ 5);
        c.due("CHILD sings: (11 + 6 + 2) * 2", x.act(6, 0, 10), 38);
        c.due("CHILD steams: (9 + 6 + 2) * 2 * 2", x.act(6, 1, 10), 68);
        c.due("CHILD falls", x.act(6, 2, 10), 68 ^ 34);
        c.due("wrapping", x.act(2, 1, MAX), (MAX + 2) * 2 * 3);
        c.due("act(7, 0, 1)", x.act(7, 0, 1), 0);
        c.due("act(-1, 0, 1)", x.act(-1, 0, 1), 0);
        c.due("act(0, 3, 1)", x.act(0, 3, 1), 0);
        c.due("act(0, -1, 1)", x.act(0, -1, 1), 0);
        refusals(x);
    }

    private void trace() {
        c.about("34 trace");
        PieFunnels x = sevenBirds();
        int[][] falls = {{12, 11, 10, 10}, {12, 11, 20, 10, 20, 10}, {12, 30, 11, 10, 10},
            {12, 11, 40, 20, 10, 40, 20, 10}, {50, 12, 11, 51, 10, 51, 10}, {60, 12, 30, 11, 10, 10},
            {12, 71, 11, 70, 40, 20, 10, 70, 40, 20, 10}};
        for (int bird = 0; bird < 7; bird++) {
            x.act(bird, 2, 5);
            c.due("status(7) of " + bird, x.status(7), falls[bird].length);
            for (int i = 0; i < falls[bird].length; i++) {
                c.due("trace(" + i + ") of " + bird, x.trace(i), falls[bird][i]);
            }
            c.due("trace behind the last", x.trace(falls[bird].length), -1);
        }
        c.due("trace(-1)", x.trace(-1), -1);
        c.due("trace(20)", x.trace(20), -1);
        c.due("trace(MAX)", x.trace(MAX), -1);
        x.act(0, 0, 5);
        c.due("the latest act() alone", x.trace(1), -1);
        c.due("the latest act() alone", x.status(7), 1);
        x.act(0, 3, 5);
        c.due("no TRACE", x.trace(0), -1);
        c.due("no TRACE", x.status(7), 0);
        x.act(0, 0, 5);
        x.act(7, 0, 5);
        c.due("no TRACE", x.trace(0), -1);
        refusals(x);
    }

    private void imageAndRestore() {
        c.about("35, 36 image, restore");
        PieFunnels x = new PieFunnels();
        c.due("restore() without", x.restore(), -6);
        x.bird(4, 2, 5);
        Checks.fill(x, 0, 3);
        x.ask(0, 7);
        x.ask(1, 2);
        x.ask(2, 9);
        x.table(1, 1, 6);
        x.bake(0, 0);
        x.seed(77);
        c.due("image()", x.image(), 1);
        int[] due = new int[7];
        for (int what = 0; what < 7; what++) {
            due[what] = x.status(what);
        }
        x.bird(3, 1, 1);
        x.bird(5, 1, 1);
        x.show(1, 0);
        x.show(2, 1);
        x.show(3, 2);
        x.show(7, 2);
        x.set(0, 0, 4);
        x.act(2, 0, 0);
        Checks.text(x, 4, "ill");
        x.bakery(4);
        x.table(1, 1, 0);
        x.ask(2, 255);
        x.years(7);
        c.due("restore()", x.restore(), 1);
        for (int what = 0; what < 7; what++) {
            c.due("status(" + what + ")", x.status(what), due[what]);
        }
        c.due("comes(1, 1)", x.comes(1, 1), 6);
        c.due("birdOf(0, 0)", x.birdOf(0, 0), 4);
        c.due("birdOf(1, 0)", x.birdOf(1, 0), -5);
        c.due("a SHELF with a BIRD of it", x.holds(1), 0);
        c.due("a SHELF with a BIRD beyond it", x.holds(2), -1);
        c.due("a SHELF with a BIRD beyond it", x.holds(3), -1);
        c.due("the last SHELF", x.holds(7), -1);
        c.due("a ROW is as it was", x.element(0, 0), 4);
        c.due("the FAULT is as it was", x.fault(), 3);
        c.due("THE TRACE is as it was", x.status(7), 1);
        refusals(x, 0, 0, 0, 0, 1, 2);
        x.bird(0, 9, 9);
        c.due("restore() again", x.restore(), 1);
        c.due("a new BIRD behind it", x.bird(6, 8, 7), 1);
        c.due("birdOf(1, 0)", x.birdOf(1, 0), 6);
        c.due("image() anew", x.image(), 2);
        c.due("restore()", x.restore(), 2);
        x.bird(0, 0, 0);
        x.show(0, 2);
        x.restore();
        c.due("the first SHELF", x.holds(0), -1);
    }

    private void status() {
        c.about("37 status");
        PieFunnels x = sevenBirds();
        x.ask(0, 3);
        x.ask(1, 6);
        x.ask(2, 129);
        x.seed(-5);
        x.act(0, 1, 0);
        int[] due = {7, 3, 6, 129, 0, 0, -5, 2};
        for (int what = 0; what < due.length; what++) {
            c.due("status(" + what + ")", x.status(what), due[what]);
        }
        int[] none = {-1, 8, 9, 10, 18, MIN, MAX};
        for (int what : none) {
            c.due("status(" + what + ")", x.status(what), -1);
        }
        x.row(8, 0, 0);
        x.show(0, 0);
        x.set(0, 0, 0);
        x.set(1, 0, 0);
        x.row(1, 0, -1);
        x.comes(8, 0);
        x.ask(9, 0);
        x.bird(0, 0, 0);
        refusals(x, 1, 1, 1, 1, 1, 1, 1);
    }
}
