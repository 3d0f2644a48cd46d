/**
 * The bakery of the pie funnels: china birds that tell of pies, and what comes of what they tell.
 *
 * Nothing is made after the constructor: pies, voices and drafts are kept here and used again by each call.
 */
public final class PieFunnels {
    public static final int NONE = -1;

    private static final int NOBODY = -1;
    private static final int OTHER = -2;
    private static final int NOTHING = -3;
    private static final int BELOW = -4;
    private static final int BEYOND = -5;
    private static final int WRONG = -6;
    private static final int ROOM = -7;
    /** What a refusal is lessened by where a small negative number may be an answer. */
    private static final int FAR = 10;

    private static final int BIRD = 0;
    private static final int CHIPPED = 1;
    private static final int QUICK = 2;
    private static final int WIDOW = 3;
    private static final int PRICKED = 4;
    private static final int TWICE = 5;
    private static final int CHILD = 6;
    private static final int KINDS = 7;
    private static final int[] KIND_ABOVE = {NONE, BIRD, BIRD, CHIPPED, BIRD, QUICK, WIDOW};

    private static final int SHELVES = 8;
    private static final int MOST_ELEMENTS = 160;
    private static final int SORTS = 4;
    private static final int MOST_BIRDS = 7;
    private static final int STATES = 8;
    private static final int ROOTS = 5;
    private static final int HEATS = 10;
    private static final int STUFFINGS = 10;
    private static final int AS = 10;
    private static final int SIGNS = 20;
    private static final int MOST_LAYERS = 8;
    private static final int MOST_SOUGHT = 3;
    private static final int MOST_UNKNOWN = 3;
    private static final int MOST_TRIBES = 7;
    private static final int MOST_TIMES = 40;
    private static final int MOST_YEARS = 60;
    private static final int MILLION = 1000000;

    private final Shelf[] shelves = new Shelf[SHELVES];
    private final Bakery bakery = new Bakery();
    private final Bakery draft = new Bakery();
    private final Bakery kept = new Bakery();
    private boolean anyKept = false;
    private final Reader reader = new Reader();
    private final Moves moves = new Moves();
    private final Pie pie = new Pie();
    private final Voice voice = new Voice();
    private final Voice second = new Voice();
    private final Parting parting = new Parting();
    private final int[] refusals = new int[1 - ROOM];

    public PieFunnels() {
        for (int s = 0; s < SHELVES; s++) {
            shelves[s] = new Shelf();
        }
    }

    // ---- shelves

    public int row(int s, int sort, int n) {
        if (noShelf(s)) {
            return refuse(NOBODY);
        }
        if (n < 0) {
            return refuse(BELOW);
        }
        if (sort < 0 || sort >= SORTS) {
            return refuse(WRONG);
        }
        if (n > MOST_ELEMENTS) {
            return refuse(ROOM);
        }
        shelves[s].holdRow(sort, n);
        return 1;
    }

    public int set(int s, int i, long v) {
        int no = noRow(s);
        if (no != 0) {
            return refuse(no);
        }
        if (i < 0 || i >= shelves[s].size) {
            return refuse(BEYOND);
        }
        shelves[s].put(i, v);
        return 1;
    }

    public int copy(int p, int q, int i, int j, int n) {
        int no = noRows(p, q);
        if (no == 0 && shelves[p].sort != shelves[q].sort) {
            no = OTHER;
        }
        if (no != 0) {
            return refuse(no);
        }
        if (n < 0) {
            return refuse(BELOW);
        }
        if (!shelves[p].hasSpan(i, n) || !shelves[q].hasSpan(j, n)) {
            return refuse(BEYOND);
        }
        System.arraycopy(shelves[p].cells, i, shelves[q].cells, j, n);
        return 1;
    }

    public long element(int s, int i) {
        if (noRow(s) != 0) {
            return 0;
        }
        return shelves[s].whole(i);
    }

    public int show(int s, int bird) {
        if (noShelf(s)) {
            return refuse(NOBODY);
        }
        if (bird == NONE) {
            shelves[s].holdNothing();
            return 0;
        }
        if (bakery.lacks(bird)) {
            return refuse(NOBODY);
        }
        shelves[s].holdBird(bird);
        return 1;
    }

    public int holds(int s) {
        if (noShelf(s) || shelves[s].content == Shelf.EMPTY) {
            return NONE;
        }
        if (shelves[s].content == Shelf.OF_BIRD) {
            return shelves[s].bird;
        }
        return 100 + shelves[s].sort;
    }

    public int says(int s, int kind) {
        if (noShelf(s) || kind < 0 || kind >= KINDS) {
            return refuseFar(NOBODY);
        }
        Shelf shelf = shelves[s];
        if (shelf.content == Shelf.EMPTY) {
            return refuseFar(NOTHING);
        }
        if (shelf.content != Shelf.OF_BIRD || bakery.lacks(shelf.bird) || !isUnder(bakery.kinds[shelf.bird], kind)) {
            return refuseFar(OTHER);
        }
        voice.take(bakery, shelf.bird);
        switch (kind) {
            case BIRD:
                return voice.mouth;
            case QUICK:
            case TWICE:
                pie.setByNumber(3, 0);
                voice.speak(pie);
                return voice.count;
            case PRICKED:
                pie.setByNumber(3, 210);
                voice.speak(pie);
                return voice.sign(0);
            default:
                return voice.a;
        }
    }

    // ---- the bakery

    public int bird(int kind, int a, int mouth) {
        if (kind < 0 || kind >= KINDS) {
            return refuse(NOBODY);
        }
        if (a < 0 || a >= AS || mouth < 0 || mouth >= SIGNS) {
            return refuse(WRONG);
        }
        if (bakery.birds >= MOST_BIRDS) {
            return refuse(ROOM);
        }
        bakery.add(kind, a, mouth);
        return bakery.birds - 1;
    }

    public int ask(int what, int v) {
        int was;
        if (what == 0 && v >= 0 && v < HEATS) {
            was = bakery.heat;
            bakery.heat = v;
        } else if (what == 1 && v >= 0 && v < STATES) {
            was = bakery.state;
            bakery.state = v;
        } else if (what == 2 && v >= 0 && v < 1 << STATES) {
            was = bakery.troubles;
            bakery.troubles = v;
        } else {
            return refuse(WRONG);
        }
        return was;
    }

    public int table(int state, int root, int v) {
        int was = bakery.comingBy(state, root);
        if (was == NONE || v < 0 || v >= STATES) {
            return refuse(WRONG);
        }
        bakery.setComing(state, root, v);
        return was;
    }

    public int comes(int state, int root) {
        int coming = bakery.comingBy(state, root);
        return coming == NONE ? refuse(BEYOND) : coming;
    }

    public int birdOf(int bird, int what) {
        if (bakery.lacks(bird) || what < 0 || what > 2) {
            return refuse(BEYOND);
        }
        switch (what) {
            case 0:
                return bakery.kinds[bird];
            case 1:
                return bakery.as[bird];
            default:
                return bakery.mouths[bird];
        }
    }

    public int bakery(int s) {
        int no = noRow(s);
        if (no != 0) {
            return refuse(no);
        }
        draft.become(bakery);
        int items = reader.read(shelves[s], draft);
        if (reader.fault != NONE) {
            return refuse(WRONG);
        }
        bakery.become(draft);
        return items;
    }

    public int fault() {
        return reader.fault;
    }

    // ---- what is said

    public int said(int s, int bird, int i) {
        int no = noPieOf(s, bird);
        if (no != 0) {
            return refuse(no);
        }
        voice.take(bakery, bird);
        voice.speak(pie);
        if (i == NONE) {
            return voice.count;
        }
        int sign = voice.sign(i);
        return sign == NONE ? refuse(BEYOND) : sign;
    }

    public int brings(int s, int bird, int what) {
        int no = noPieOfWhat(s, bird, what, 1);
        if (no != 0) {
            return refuse(no);
        }
        voice.take(bakery, bird);
        voice.speak(pie);
        return what == 0 ? bakery.endOf(voice, bakery.state) : bakery.illsOf(voice);
    }

    // ---- what comes of it

    public int soonest(int bird, int state, int i) {
        if (bakery.lacks(bird)) {
            return refuseFar(NOBODY);
        }
        if (state < 0 || state >= STATES) {
            return refuseFar(WRONG);
        }
        voice.take(bakery, bird);
        boolean found = false;
        for (int k = 0; k <= MOST_SOUGHT && !found; k++) {
            found = findBringing(state, k);
        }
        if (i == NONE) {
            return found ? pie.layers : NONE;
        }
        int stuffing = found ? pie.layer(i) : NONE;
        return stuffing == NONE ? refuseFar(BEYOND) : stuffing;
    }

    public int safe(int bird) {
        if (bakery.lacks(bird)) {
            return refuse(NOBODY);
        }
        voice.take(bakery, bird);
        int many = 0;
        for (int number = 0; number < 100; number++) {
            pie.setByNumber(2, number);
            voice.speak(pie);
            if (bakery.illsOf(voice) == 0) {
                many++;
            }
        }
        return many;
    }

    public int fits(int s, int p, int bird, int what) {
        if (noShelf(s) || noShelf(p) || bakery.lacks(bird)) {
            return refuse(NOBODY);
        }
        int no = noRows(s, p);
        if (no != 0) {
            return refuse(no);
        }
        if (what < 0 || what > 2) {
            return refuse(BEYOND);
        }
        if (!pie.take(shelves[s], 0)) {
            return refuse(WRONG);
        }
        switch (what) {
            case 0:
                return kindsThatSay(shelves[p], bird);
            case 1:
                return heatsThatSay(shelves[p], bird);
            default:
                return mouthsThatSay(shelves[p], bird);
        }
    }

    public int pies(int p, int bird, int k, int i) {
        if (noShelf(p) || bakery.lacks(bird)) {
            return refuseFar(NOBODY);
        }
        int no = noRow(p);
        if (no != 0) {
            return refuseFar(no);
        }
        if (k < 0 || k > MOST_SOUGHT) {
            return refuseFar(WRONG);
        }
        if (i != NONE && (i < 0 || i >= k)) {
            return refuseFar(BEYOND);
        }
        voice.take(bakery, bird);
        int many = 0;
        for (int number = 0; number < tenTo(k); number++) {
            pie.setByNumber(k, number);
            voice.speak(pie);
            if (voice.saysJust(shelves[p])) {
                if (i != NONE) {
                    return pie.layer(i);
                }
                many++;
            }
        }
        return i == NONE ? many : NONE;
    }

    public int next(int bird) {
        if (bakery.lacks(bird)) {
            return refuseFar(NOBODY);
        }
        int best = NONE;
        int fewest = KINDS;
        for (int stuffing = 0; stuffing < STUFFINGS; stuffing++) {
            pie.setByNumber(1, stuffing);
            int left = mostLeft(bird);
            if (left < fewest) {
                fewest = left;
                best = stuffing;
            }
        }
        return best;
    }

    public int chance(int s, int bird, int state, int what) {
        if (noShelf(s) || bakery.lacks(bird)) {
            return refuse(NOBODY);
        }
        int no = noRow(s);
        if (no != 0) {
            return refuse(no);
        }
        if (what != 0 && what != 1) {
            return refuse(BEYOND);
        }
        if (!pie.take(shelves[s], NONE) || pie.unknowns() > MOST_UNKNOWN) {
            return refuse(WRONG);
        }
        if (what == 0 && (state < 0 || state >= STATES)) {
            return refuse(WRONG);
        }
        int all = Math.max(1, tenTo(pie.unknowns()));
        int sum = 0;
        voice.take(bakery, bird);
        for (int number = 0; number < all; number++) {
            pie.take(shelves[s], NONE);
            pie.fillUnknowns(number);
            voice.speak(pie);
            if (what == 1) {
                sum += bakery.illsOf(voice);
            } else if (bakery.endOf(voice, bakery.state) == state) {
                sum++;
            }
        }
        return what == 0 ? sum * (MILLION / all) : sum * 1000 / all;
    }

    public int minutes(int s, int bird) {
        int no = noPieOf(s, bird);
        if (no != 0) {
            return refuseFar(no);
        }
        voice.take(bakery, bird);
        for (int wait = 0; wait <= bakery.heat; wait++) {
            voice.heat = bakery.heat - wait;
            voice.speak(pie);
            if (bakery.illsOf(voice) == 0) {
                return wait;
            }
        }
        return NONE;
    }

    public int after(int s, int bird, int n) {
        int no = noPieOf(s, bird);
        if (no != 0) {
            return refuse(no);
        }
        if (n < 0 || n > MOST_TIMES) {
            return refuse(WRONG);
        }
        voice.take(bakery, bird);
        voice.speak(pie);
        int state = bakery.state;
        for (int time = 0; time < n; time++) {
            state = bakery.endOf(voice, state);
        }
        return state;
    }

    public int kings(int s, int bird, int what) {
        int no = noPieOfWhat(s, bird, what, 1);
        if (no != 0) {
            return refuse(no);
        }
        if (pie.layers == 0) {
            return refuse(WRONG);
        }
        voice.take(bakery, bird);
        int most = NONE;
        int by = 0;
        for (int heat = 0; heat < HEATS; heat++) {
            voice.heat = heat;
            int ills = fewestIllsByLast();
            if (ills > most) {
                most = ills;
                by = heat;
            }
        }
        return what == 0 ? most : by;
    }

    public int tribes(int s, int p, int i) {
        int no = noRows(s, p);
        if (no != 0) {
            return refuseFar(no);
        }
        if (!pie.take(shelves[s], 0) || !parting.takeWishes(shelves[p])) {
            return refuseFar(WRONG);
        }
        if (i != NONE && (i < 0 || i >= parting.tribes)) {
            return refuseFar(BEYOND);
        }
        for (int bird = 0; bird < bakery.birds; bird++) {
            voice.take(bakery, bird);
            voice.speak(pie);
            parting.bringsOf(bird, bakery.endOf(voice, bakery.state));
        }
        parting.part(bakery.birds);
        return i == NONE ? parting.served : parting.whomHas(i);
    }

    public int alike(int bird, int other) {
        if (bakery.lacks(bird) || bakery.lacks(other)) {
            return refuse(NOBODY);
        }
        voice.take(bakery, bird);
        second.take(bakery, other);
        int many = 0;
        for (int number = 0; number < 100; number++) {
            pie.setByNumber(2, number);
            voice.speak(pie);
            second.speak(pie);
            if (voice.saysSame(second)) {
                many++;
            }
        }
        return many;
    }

    public int judge(int s, int p, int n) {
        int no = noRows(s, p);
        if (no != 0) {
            return refuseFar(no);
        }
        if (n < 0) {
            return refuseFar(BELOW);
        }
        Shelf told = shelves[p];
        if (n > told.size / 2) {
            return refuseFar(BEYOND);
        }
        if (!pie.take(shelves[s], 0) || n > MOST_TIMES) {
            return refuseFar(WRONG);
        }
        int state = bakery.state;
        for (int two = 0; two < n; two++) {
            int bird = told.number(2 * two);
            if (bakery.lacks(bird)) {
                return two;
            }
            voice.take(bakery, bird);
            voice.speak(pie);
            state = bakery.endOf(voice, state);
            if (state != told.number(2 * two + 1)) {
                return two;
            }
        }
        return NONE;
    }

    // ---- in truth

    public int bake(int s, int bird) {
        int no = noPieOf(s, bird);
        if (no != 0) {
            return refuse(no);
        }
        bakeInTruth(bird);
        return bakery.state;
    }

    public int years(int n) {
        if (bakery.birds == 0) {
            return refuse(BEYOND);
        }
        if (n < 1 || n > MOST_YEARS) {
            return refuse(WRONG);
        }
        for (int year = 0; year < n; year++) {
            int bird = bakery.draw(bakery.birds);
            bakery.heat = bakery.draw(HEATS);
            pie.setByNumber(3, 0);
            for (int layer = 0; layer < pie.layers; layer++) {
                pie.setLayer(layer, bakery.draw(STUFFINGS));
            }
            bakeInTruth(bird);
        }
        return bakery.suffered;
    }

    public int seed(int v) {
        int was = bakery.seed;
        bakery.seed = v;
        return was;
    }

    public int act(int bird, int move, int x) {
        moves.forget();
        if (bakery.lacks(bird) || move < 0 || move > Moves.FALLS) {
            return 0;
        }
        moves.take(bakery, bird);
        return Moves.run(moves, move, moves.kind, x, 0);
    }

    public int trace(int i) {
        return i < 0 || i >= moves.traced() ? NONE : moves.trace[i];
    }

    public int image() {
        kept.become(bakery);
        anyKept = true;
        return bakery.birds;
    }

    public int restore() {
        if (!anyKept) {
            return refuse(WRONG);
        }
        bakery.become(kept);
        for (int s = 0; s < SHELVES; s++) {
            if (!noShelf(s) && shelves[s].content == Shelf.OF_BIRD && bakery.lacks(shelves[s].bird)) {
                shelves[s].holdNothing();
            }
        }
        return bakery.birds;
    }

    public int status(int what) {
        switch (what) {
            case 0:
                return bakery.birds;
            case 1:
                return bakery.heat;
            case 2:
                return bakery.state;
            case 3:
                return bakery.troubles;
            case 4:
                return bakery.bakes;
            case 5:
                return bakery.suffered;
            case 6:
                return bakery.seed;
            case 7:
                return moves.ran;
            default:
                return what > FAR && what - FAR < refusals.length ? refusals[what - FAR] : NONE;
        }
    }

    // ---- refusals

    private int refuse(int number) {
        int at = -number;
        if (at > 0 && at < refusals.length) {
            refusals[at]++;
        }
        return number;
    }

    private int refuseFar(int number) {
        return refuse(number) - FAR;
    }

    private boolean noShelf(int s) {
        return s < 0 || s >= shelves.length || shelves[s] == null;
    }

    /** Why SHELF s can't be read as a ROW: a refusal, or 0. */
    private int noRow(int s) {
        return noRows(s, s);
    }

    private int noRows(int s, int p) {
        if (noShelf(s) || noShelf(p)) {
            return NOBODY;
        }
        if (shelves[s].content == Shelf.OF_BIRD || shelves[p].content == Shelf.OF_BIRD) {
            return OTHER;
        }
        if (shelves[s].content == Shelf.EMPTY || shelves[p].content == Shelf.EMPTY) {
            return NOTHING;
        }
        return 0;
    }

    /** Takes the PIE in SHELF s for a BIRD: 0, or the refusal that keeps it from being taken. */
    private int noPieOf(int s, int bird) {
        return noPieOfWhat(s, bird, 0, 0);
    }

    private int noPieOfWhat(int s, int bird, int what, int mostWhat) {
        if (noShelf(s) || bakery.lacks(bird)) {
            return NOBODY;
        }
        int no = noRow(s);
        if (no != 0) {
            return no;
        }
        if (what < 0 || what > mostWhat) {
            return BEYOND;
        }
        return pie.take(shelves[s], 0) ? 0 : WRONG;
    }

    // ---- steps of the questions above

    /** Leaves the first PIE of k layers that brings the STATE in pie, if there is one. */
    private boolean findBringing(int state, int k) {
        for (int number = 0; number < tenTo(k); number++) {
            pie.setByNumber(k, number);
            voice.speak(pie);
            if (bakery.endOf(voice, bakery.state) == state) {
                return true;
            }
        }
        return false;
    }

    private int kindsThatSay(Shelf told, int bird) {
        voice.take(bakery, bird);
        int bits = 0;
        for (int kind = 0; kind < KINDS; kind++) {
            voice.kind = kind;
            voice.speak(pie);
            bits |= voice.saysJust(told) ? 1 << kind : 0;
        }
        return bits;
    }

    private int heatsThatSay(Shelf told, int bird) {
        voice.take(bakery, bird);
        int bits = 0;
        for (int heat = 0; heat < HEATS; heat++) {
            voice.heat = heat;
            voice.speak(pie);
            bits |= voice.saysJust(told) ? 1 << heat : 0;
        }
        return bits;
    }

    private int mouthsThatSay(Shelf told, int bird) {
        voice.take(bakery, bird);
        int bits = 0;
        for (int mouth = 0; mouth < SIGNS; mouth++) {
            voice.mouth = mouth;
            voice.speak(pie);
            bits |= voice.saysJust(told) ? 1 << mouth : 0;
        }
        return bits;
    }

    /** How many KINDS are left in the worst case when the BIRD tells of pie. */
    private int mostLeft(int bird) {
        voice.take(bakery, bird);
        second.take(bakery, bird);
        int most = 0;
        for (int kind = 0; kind < KINDS; kind++) {
            voice.kind = kind;
            voice.speak(pie);
            int left = 0;
            for (int other = 0; other < KINDS; other++) {
                second.kind = other;
                second.speak(pie);
                left += voice.saysSame(second) ? 1 : 0;
            }
            most = Math.max(most, left);
        }
        return most;
    }

    private int fewestIllsByLast() {
        int fewest = NONE;
        for (int stuffing = 0; stuffing < STUFFINGS; stuffing++) {
            pie.setLayer(pie.layers - 1, stuffing);
            voice.speak(pie);
            int ills = bakery.illsOf(voice);
            fewest = fewest == NONE ? ills : Math.min(fewest, ills);
        }
        return fewest;
    }

    private void bakeInTruth(int bird) {
        voice.take(bakery, bird);
        voice.speak(pie);
        // the ILLS go by the STATE ahead of the BAKE, so they are counted before it changes
        bakery.suffered += bakery.illsOf(voice);
        bakery.state = bakery.endOf(voice, bakery.state);
        bakery.bakes++;
    }

    private static boolean isUnder(int kind, int wanted) {
        int at = kind;
        for (int up = 0; up < KINDS && at >= 0 && at < KINDS; up++) {
            if (at == wanted) {
                return true;
            }
            at = KIND_ABOVE[at];
        }
        return false;
    }

    /** How many PIES of k layers there are. */
    private static int tenTo(int k) {
        switch (k) {
            case 1:
                return 10;
            case 2:
                return 100;
            case 3:
                return 1000;
            default:
                return 1;
        }
    }

    /** What stands on a SHELF; its cells stay when it holds something else, for the next ROW. */
    private static final class Shelf {
        private static final int EMPTY = 0;
        private static final int OF_BIRD = 1;
        private static final int OF_ROW = 2;

        private int content = EMPTY;
        private int bird = NONE;
        private int sort = 0;
        private int size = 0;
        private final long[] cells = new long[MOST_ELEMENTS];

        private void holdNothing() {
            content = EMPTY;
            size = 0;
        }

        private void holdBird(int number) {
            content = OF_BIRD;
            bird = number;
            size = 0;
        }

        private void holdRow(int newSort, int n) {
            content = OF_ROW;
            sort = newSort;
            size = Math.max(0, Math.min(n, MOST_ELEMENTS));
            for (int i = 0; i < size; i++) {
                cells[i] = 0;
            }
        }

        private void put(int i, long v) {
            if (i < 0 || i >= size) {
                return;
            }
            switch (sort) {
                case 0:
                    cells[i] = (byte) v;
                    break;
                case 1:
                    cells[i] = (short) v;
                    break;
                case 2:
                    cells[i] = (int) v;
                    break;
                default:
                    cells[i] = v;
                    break;
            }
        }

        private long whole(int i) {
            return i < 0 || i >= size ? 0 : cells[i];
        }

        private int number(int i) {
            return (int) whole(i);
        }

        private boolean hasSpan(int from, int n) {
            return from >= 0 && n >= 0 && (long) from + n <= size;
        }
    }

    /** All that THE IMAGE keeps: BIRDS, HEAT, STATE, TABLE, TROUBLES, BAKES, SUFFERED, SEED. */
    private static final class Bakery {
        private int birds = 0;
        private final int[] kinds = new int[MOST_BIRDS];
        private final int[] as = new int[MOST_BIRDS];
        private final int[] mouths = new int[MOST_BIRDS];
        private final int[] table = new int[STATES * ROOTS];
        private int heat = 5;
        private int state = 0;
        private int troubles = 0;
        private int bakes = 0;
        private int suffered = 0;
        private int seed = 1;

        private Bakery() {
            for (int i = 0; i < STATES * ROOTS; i++) {
                table[i] = (i / ROOTS + i % ROOTS + 1) % STATES;
            }
        }

        private void become(Bakery other) {
            if (other == null) {
                return;
            }
            birds = other.birds;
            System.arraycopy(other.kinds, 0, kinds, 0, MOST_BIRDS);
            System.arraycopy(other.as, 0, as, 0, MOST_BIRDS);
            System.arraycopy(other.mouths, 0, mouths, 0, MOST_BIRDS);
            System.arraycopy(other.table, 0, table, 0, STATES * ROOTS);
            heat = other.heat;
            state = other.state;
            troubles = other.troubles;
            bakes = other.bakes;
            suffered = other.suffered;
            seed = other.seed;
        }

        private boolean lacks(int bird) {
            return bird < 0 || bird >= birds || bird >= MOST_BIRDS;
        }

        private void add(int kind, int a, int mouth) {
            if (birds < 0 || birds >= MOST_BIRDS) {
                return;
            }
            kinds[birds] = kind;
            as[birds] = a;
            mouths[birds] = mouth;
            birds++;
        }

        /** What comes by TABLE; NONE where TABLE has no such place. */
        private int comingBy(int from, int root) {
            if (from < 0 || from >= STATES || root < 0 || root >= ROOTS) {
                return NONE;
            }
            return table[from * ROOTS + root];
        }

        private void setComing(int from, int root, int to) {
            if (comingBy(from, root) != NONE) {
                table[from * ROOTS + root] = to;
            }
        }

        private int endOf(Voice voice, int from) {
            int at = from;
            for (int i = 0; i < voice.count && i < voice.signs.length; i++) {
                at = comingBy(at, voice.signs[i] % ROOTS);
            }
            return at;
        }

        private int illsOf(Voice voice) {
            int at = state;
            int ills = 0;
            for (int i = 0; i < voice.count && i < voice.signs.length; i++) {
                at = comingBy(at, voice.signs[i] % ROOTS);
                ills += troubles >> at & 1;
            }
            return ills;
        }

        private int draw(int n) {
            seed = seed * 1103515245 + 12345;
            return n <= 0 ? 0 : (seed >>> 16) % n;
        }
    }

    /** A PIE that is asked about; NONE stands for an unknown layer. */
    private static final class Pie {
        private final int[] stuffings = new int[MOST_LAYERS];
        private int layers = 0;

        /** False where the ROW is no PIE; least is NONE where unknown layers are let in, or else 0. */
        private boolean take(Shelf shelf, int least) {
            if (shelf.size > MOST_LAYERS) {
                return false;
            }
            layers = shelf.size;
            for (int i = 0; i < layers && i < stuffings.length; i++) {
                int stuffing = shelf.number(i);
                if (stuffing < least || stuffing >= STUFFINGS) {
                    return false;
                }
                stuffings[i] = stuffing;
            }
            return true;
        }

        /** The digits of the number are the layers, so that PIES by their numbers are PIES by rows. */
        private void setByNumber(int k, int number) {
            layers = Math.max(0, Math.min(k, stuffings.length));
            int rest = number;
            for (int i = layers - 1; i >= 0; i--) {
                stuffings[i] = rest % 10;
                rest /= 10;
            }
        }

        /** NONE where there is no such layer, or where it isn't known. */
        private int layer(int i) {
            return i < 0 || i >= layers || i >= stuffings.length ? NONE : stuffings[i];
        }

        private void setLayer(int i, int stuffing) {
            if (i >= 0 && i < layers && i < stuffings.length) {
                stuffings[i] = stuffing;
            }
        }

        private int unknowns() {
            int many = 0;
            for (int i = 0; i < layers && i < stuffings.length; i++) {
                many += stuffings[i] == NONE ? 1 : 0;
            }
            return many;
        }

        private void fillUnknowns(int number) {
            int rest = number;
            for (int i = 0; i < layers && i < stuffings.length; i++) {
                if (stuffings[i] == NONE) {
                    stuffings[i] = rest % 10;
                    rest /= 10;
                }
            }
        }
    }

    /** A BIRD as it is asked to speak; its KIND, MOUTH and HEAT may be set otherwise than they are in truth. */
    private static final class Voice {
        private int kind = BIRD;
        private int a = 0;
        private int mouth = 0;
        private int heat = 0;
        private int count = 0;
        /** TWICE says each layer twice. */
        private final int[] signs = new int[2 * MOST_LAYERS];

        private void take(Bakery bakery, int bird) {
            if (bakery.lacks(bird)) {
                return;
            }
            kind = bakery.kinds[bird];
            a = bakery.as[bird];
            mouth = bakery.mouths[bird];
            heat = bakery.heat;
        }

        private void speak(Pie pie) {
            sayLayers(pie);
            switch (kind) {
                case CHIPPED:
                    chip();
                    break;
                case QUICK:
                    turn();
                    break;
                case WIDOW:
                    chip();
                    raise();
                    break;
                case PRICKED:
                    order();
                    break;
                case TWICE:
                    turn();
                    doubleEach();
                    break;
                case CHILD:
                    chip();
                    raise();
                    keepEachSecond();
                    break;
                default:
                    break;
            }
        }

        /** NONE where there is no such SIGN. */
        private int sign(int i) {
            return i < 0 || i >= count || i >= signs.length ? NONE : signs[i];
        }

        private void sayLayers(Pie pie) {
            count = Math.max(0, Math.min(Math.min(pie.layers, heat), MOST_LAYERS));
            for (int i = 0; i < count && i < signs.length; i++) {
                signs[i] = (2 * pie.layer(i) + heat + mouth) % SIGNS;
            }
        }

        private void chip() {
            for (int i = 0; i < count && i < signs.length; i++) {
                if (signs[i] % 3 == 0) {
                    signs[i] = (signs[i] + 1) % SIGNS;
                }
            }
        }

        private void raise() {
            for (int i = 0; i < count && i < signs.length; i++) {
                signs[i] = (signs[i] + a) % SIGNS;
            }
        }

        private void keepEachSecond() {
            count /= 2;
            for (int i = 0; i < count && 2 * i + 1 < signs.length; i++) {
                signs[i] = signs[2 * i + 1];
            }
        }

        private void turn() {
            for (int i = 0; i < count / 2; i++) {
                swap(i, count - 1 - i);
            }
        }

        private void doubleEach() {
            // from the last on, so that none is written over before it is read
            for (int i = Math.min(count, MOST_LAYERS) - 1; i >= 0; i--) {
                signs[2 * i + 1] = signs[i];
                signs[2 * i] = signs[i];
            }
            count = 2 * Math.min(count, MOST_LAYERS);
        }

        private void order() {
            for (int i = 1; i < count && i < signs.length; i++) {
                for (int j = i; j > 0 && signs[j - 1] > signs[j]; j--) {
                    swap(j - 1, j);
                }
            }
        }

        private void swap(int i, int j) {
            if (i < 0 || i >= signs.length || j < 0 || j >= signs.length) {
                return;
            }
            int was = signs[i];
            signs[i] = signs[j];
            signs[j] = was;
        }

        private boolean saysJust(Shelf told) {
            if (count != told.size) {
                return false;
            }
            for (int i = 0; i < count && i < signs.length; i++) {
                if (signs[i] != told.number(i)) {
                    return false;
                }
            }
            return true;
        }

        private boolean saysSame(Voice other) {
            if (count != other.count) {
                return false;
            }
            for (int i = 0; i < count && i < signs.length && i < other.signs.length; i++) {
                if (signs[i] != other.signs[i]) {
                    return false;
                }
            }
            return true;
        }
    }

    /** BIRDS parted to tribes. */
    private static final class Parting {
        private int tribes = 0;
        private int served = 0;
        private final int[] wishes = new int[MOST_TRIBES];
        private final int[] whom = new int[MOST_TRIBES];
        private final int[] brought = new int[MOST_BIRDS];

        private boolean takeWishes(Shelf shelf) {
            if (shelf.size > MOST_TRIBES) {
                return false;
            }
            tribes = shelf.size;
            for (int i = 0; i < tribes && i < wishes.length; i++) {
                int wish = shelf.number(i);
                if (wish < 0 || wish >= STATES) {
                    return false;
                }
                wishes[i] = wish;
            }
            return true;
        }

        private void bringsOf(int bird, int state) {
            if (bird >= 0 && bird < brought.length) {
                brought[bird] = state;
            }
        }

        /**
         * Each BIRD brings one STATE alone, so tribes of different wishes never want the same BIRD, and to give each
         * tribe the first BIRD left serves the most tribes and is the first parting by rows.
         */
        private void part(int birds) {
            served = 0;
            for (int i = 0; i < tribes && i < whom.length; i++) {
                whom[i] = firstLeft(wishes[i], birds);
                if (whom[i] != NONE) {
                    served++;
                    brought[whom[i]] = NONE;
                }
            }
        }

        private int firstLeft(int wish, int birds) {
            for (int bird = 0; bird < birds && bird < brought.length; bird++) {
                if (brought[bird] == wish) {
                    return bird;
                }
            }
            return NONE;
        }

        private int whomHas(int i) {
            return i < 0 || i >= tribes || i >= whom.length ? NONE : whom[i];
        }
    }

    /** Reads a BAKERY's text into a draft and finds the FAULT. */
    private static final class Reader {
        private int fault = NONE;
        private int place = 0;
        private Shelf text = null;
        private final int[] numbers = new int[3];

        /** How many ITEMS were told into the draft; the draft is of no use if there is a fault. */
        private int read(Shelf shelf, Bakery draft) {
            text = shelf;
            place = 0;
            fault = NONE;
            int items = 0;
            do {
                if (items > 0) {
                    expect(';');
                }
                readItem(draft);
                items++;
            } while (fault == NONE && place < shelf.size && items < MOST_ELEMENTS);
            return items;
        }

        private void readItem(Bakery draft) {
            int start = place;
            int first = letter();
            String word = wordThatBeginsWith(first);
            for (int i = 0; i < word.length(); i++) {
                expect(word.charAt(i));
            }
            if (word.isEmpty()) {
                fail(place);
            }
            if (first == 'b' && draft.birds >= MOST_BIRDS) {
                fail(start);
            }
            for (int i = 0; i < numbersBehind(first) && i < numbers.length; i++) {
                expect(' ');
                numbers[i] = readNumber(most(first, i));
            }
            if (fault == NONE) {
                tell(draft, first);
            }
        }

        private void tell(Bakery draft, int first) {
            switch (first) {
                case 'b':
                    draft.add(numbers[0], numbers[1], numbers[2]);
                    break;
                case 'h':
                    draft.heat = numbers[0];
                    break;
                case 's':
                    draft.state = numbers[0];
                    break;
                case 'g':
                    draft.setComing(numbers[0], numbers[1], numbers[2]);
                    break;
                case 'i':
                    draft.troubles |= 1 << numbers[0];
                    break;
                default:
                    draft.troubles &= ~(1 << numbers[0]);
                    break;
            }
        }

        private static String wordThatBeginsWith(int first) {
            switch (first) {
                case 'b':
                    return "bird";
                case 'h':
                    return "heat";
                case 's':
                    return "state";
                case 'g':
                    return "goes";
                case 'i':
                    return "ill";
                case 'w':
                    return "well";
                default:
                    return "";
            }
        }

        private static int numbersBehind(int first) {
            return first == 'b' || first == 'g' ? 3 : 1;
        }

        /** The most that the i-th NUMBER behind a word may be. */
        private static int most(int first, int i) {
            switch (first) {
                case 'b':
                    return i == 0 ? KINDS - 1 : i == 1 ? AS - 1 : SIGNS - 1;
                case 'g':
                    return i == 1 ? ROOTS - 1 : STATES - 1;
                case 'h':
                    return HEATS - 1;
                default:
                    return STATES - 1;
            }
        }

        private int readNumber(int most) {
            int start = place;
            int value = digit();
            if (value == NONE) {
                fail(place);
                return 0;
            }
            place++;
            int more = digit();
            if (more != NONE) {
                place++;
                value = 10 * value + more;
            }
            if (value > most) {
                fail(start);
            }
            return value;
        }

        private int digit() {
            int letter = letter();
            return letter < '0' || letter > '9' ? NONE : letter - '0';
        }

        private int letter() {
            if (text == null || place < 0 || place >= text.size) {
                return NONE;
            }
            return (int) text.cells[place];
        }

        private void expect(char due) {
            if (fault != NONE) {
                return;
            }
            if (letter() == due) {
                place++;
            } else {
                fail(place);
            }
        }

        /** The first fault stays. */
        private void fail(int at) {
            if (fault == NONE) {
                fault = at;
            }
        }
    }

    /** MOVES of a BIRD and THE TRACE of their bodies. */
    private static final class Moves {
        private static final int SINGS = 0;
        private static final int STEAMS = 1;
        private static final int FALLS = 2;
        /** No MOVE opens more: CHILD falls by 12, 71, 11, 70, 40, 20, 10. */
        private static final int DEEPEST = 8;
        /** The bodies by MOVE and KIND, 0 where a KIND has none of its own. */
        private static final int[] BODIES = {
            10, 20, 0, 40, 51, 0, 70,
            11, 0, 30, 0, 0, 0, 71,
            12, 0, 0, 0, 50, 60, 0};

        private final int[] trace = new int[20];
        private int ran = 0;
        private int kind = BIRD;
        private int number = 0;
        private int a = 0;

        private void forget() {
            ran = 0;
        }

        private void take(Bakery bakery, int bird) {
            if (bakery.lacks(bird)) {
                return;
            }
            kind = bakery.kinds[bird];
            number = bird;
            a = bakery.as[bird];
        }

        private int traced() {
            return Math.min(ran, trace.length);
        }

        private void begin(int body) {
            if (ran >= 0 && ran < trace.length) {
                trace[ran] = body;
            }
            ran++;
        }

        /** The body of the KIND, or of the next KIND above that has one. */
        private static int bodyFrom(int move, int from) {
            int at = from;
            for (int up = 0; up < KINDS && at >= 0 && at < KINDS; up++) {
                int place = move * KINDS + at;
                if (place >= 0 && place < BODIES.length && BODIES[place] != 0) {
                    return BODIES[place];
                }
                at = KIND_ABOVE[at];
            }
            return 0;
        }

        private static int run(Moves of, int move, int from, int x, int depth) {
            if (of == null || depth > DEEPEST) {
                return 0;
            }
            int body = bodyFrom(move, from);
            int deeper = depth + 1;
            of.begin(body);
            switch (body) {
                case 10:
                    return x + of.number;
                case 11:
                    return run(of, SINGS, of.kind, x, deeper) * 2;
                case 12:
                    return run(of, STEAMS, of.kind, x, deeper) ^ run(of, SINGS, of.kind, x - of.a, deeper);
                case 20:
                    return run(of, SINGS, BIRD, x, deeper) + of.a;
                case 30:
                    return run(of, STEAMS, BIRD, x, deeper) * 3;
                case 40:
                    return run(of, SINGS, CHIPPED, x + 1, deeper);
                case 50:
                    return -run(of, FALLS, BIRD, x, deeper);
                case 51:
                    return run(of, SINGS, BIRD, x, deeper) - of.number;
                case 60:
                    return run(of, FALLS, QUICK, x, deeper) ^ 5;
                case 70:
                    return run(of, SINGS, WIDOW, x, deeper) * 2;
                case 71:
                    return run(of, STEAMS, WIDOW, x - of.a, deeper);
                default:
                    return 0;
            }
        }
    }
}
