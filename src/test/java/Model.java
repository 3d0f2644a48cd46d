import java.util.ArrayList;
import java.util.Arrays;
import java.util.Collections;
import java.util.List;

/**
 * The document told a second time, in another way than the program tells it (lists, real subclasses, parting by trying
 * all), so that a slip in one of the two shows as a difference.
 */
final class Model {
    /** A BIRD with the MOVES' bodies as methods of real subclasses. */
    static class Bird {
        int m;
        int k;
        int mouth;
        List<Integer> trace;

        List<Integer> said(List<Integer> pie, int heat) {
            List<Integer> out = new ArrayList<>();
            for (int stuffing : pie) {
                if (out.size() == heat) {
                    break;
                }
                out.add((stuffing + stuffing + heat + mouth) % 20);
            }
            return out;
        }

        int sings(int x) {
            trace.add(10);
            return x + m;
        }

        int steams(int x) {
            trace.add(11);
            return sings(x) * 2;
        }

        int falls(int x) {
            trace.add(12);
            int left = steams(x);
            int right = sings(x - k);
            return left ^ right;
        }
    }

    static class Chipped extends Bird {
        @Override
        List<Integer> said(List<Integer> pie, int heat) {
            List<Integer> out = super.said(pie, heat);
            out.replaceAll(sign -> sign % 3 == 0 ? (sign + 1) % 20 : sign);
            return out;
        }

        @Override
        int sings(int x) {
            trace.add(20);
            return super.sings(x) + k;
        }
    }

    static class Quick extends Bird {
        @Override
        List<Integer> said(List<Integer> pie, int heat) {
            List<Integer> out = super.said(pie, heat);
            Collections.reverse(out);
            return out;
        }

        @Override
        int steams(int x) {
            trace.add(30);
            return super.steams(x) * 3;
        }
    }

    static class Widow extends Chipped {
        @Override
        List<Integer> said(List<Integer> pie, int heat) {
            List<Integer> out = super.said(pie, heat);
            out.replaceAll(sign -> (sign + k) % 20);
            return out;
        }

        @Override
        int sings(int x) {
            trace.add(40);
            return super.sings(x + 1);
        }
    }

    static class Pricked extends Bird {
        @Override
        List<Integer> said(List<Integer> pie, int heat) {
            List<Integer> out = super.said(pie, heat);
            Collections.sort(out);
            return out;
        }

        @Override
        int falls(int x) {
            trace.add(50);
            return -super.falls(x);
        }

        @Override
        int sings(int x) {
            trace.add(51);
            return super.sings(x) - m;
        }
    }

    static class Twice extends Quick {
        @Override
        List<Integer> said(List<Integer> pie, int heat) {
            List<Integer> out = new ArrayList<>();
            for (int sign : super.said(pie, heat)) {
                out.add(sign);
                out.add(sign);
            }
            return out;
        }

        @Override
        int falls(int x) {
            trace.add(60);
            return super.falls(x) ^ 5;
        }
    }

    static class Child extends Widow {
        @Override
        List<Integer> said(List<Integer> pie, int heat) {
            List<Integer> all = super.said(pie, heat);
            List<Integer> out = new ArrayList<>();
            for (int i = 2; i <= all.size(); i += 2) {
                out.add(all.get(i - 1));
            }
            return out;
        }

        @Override
        int sings(int x) {
            trace.add(70);
            return super.sings(x) * 2;
        }

        @Override
        int steams(int x) {
            trace.add(71);
            return super.steams(x - k);
        }
    }

    static Bird made(int kind, int m, int k, int mouth) {
        Bird[] all = {new Bird(), new Chipped(), new Quick(), new Widow(), new Pricked(), new Twice(), new Child()};
        Bird bird = all[kind];
        bird.m = m;
        bird.k = k;
        bird.mouth = mouth;
        return bird;
    }

    static boolean isOne(Bird bird, int kind) {
        Class<?>[] all = {Bird.class, Chipped.class, Quick.class, Widow.class, Pricked.class, Twice.class,
            Child.class};
        return all[kind].isInstance(bird);
    }

    /** All but the SHELVES. */
    static final class World {
        List<int[]> birds = new ArrayList<>();
        int heat = 5;
        int state = 0;
        int[][] table = new int[8][5];
        boolean[] ill = new boolean[8];
        int bakes = 0;
        int suffered = 0;
        int seed = 1;

        World() {
            for (int state = 0; state < 8; state++) {
                for (int root = 0; root < 5; root++) {
                    table[state][root] = (state + root + 1) % 8;
                }
            }
        }

        World twin() {
            World twin = new World();
            for (int[] bird : birds) {
                twin.birds.add(bird.clone());
            }
            twin.heat = heat;
            twin.state = state;
            for (int i = 0; i < 8; i++) {
                twin.table[i] = table[i].clone();
            }
            twin.ill = ill.clone();
            twin.bakes = bakes;
            twin.suffered = suffered;
            twin.seed = seed;
            return twin;
        }

        Bird bird(int i) {
            return made(birds.get(i)[0], i, birds.get(i)[1], birds.get(i)[2]);
        }

        int draw(int n) {
            seed = seed * 1103515245 + 12345;
            return (int) (((seed & 0xffffffffL) >> 16) % n);
        }
    }

    private World world = new World();
    private World kept = null;
    /** null: NOTHING; Integer: a BIRD; Object: a ROW, as long[] with its SORT in sorts. */
    private final Object[] shelves = new Object[8];
    private final int[] sorts = new int[8];
    private final int[] refusals = new int[8];
    private List<Integer> trace = new ArrayList<>();
    private int fault = -1;

    // ---- refusals: the least number's name that fits is asked for first

    private static final class No {
        int number = 0;

        No when(boolean fits, int refusal) {
            if (number == 0 && fits) {
                number = refusal;
            }
            return this;
        }
    }

    private int no(No no) {
        refusals[-no.number]++;
        return no.number;
    }

    private int farNo(No no) {
        return no(no) - 10;
    }

    private boolean shelf(int s) {
        return s >= 0 && s <= 7;
    }

    private boolean aBird(int b) {
        return b >= 0 && b < world.birds.size();
    }

    private boolean isRow(int s) {
        return shelf(s) && shelves[s] instanceof long[];
    }

    private boolean isBird(int s) {
        return shelf(s) && shelves[s] instanceof Integer;
    }

    private boolean isNothing(int s) {
        return shelf(s) && shelves[s] == null;
    }

    private No rows(int... s) {
        No no = new No();
        for (int one : s) {
            no.when(!shelf(one), -1);
        }
        for (int one : s) {
            no.when(isBird(one), -2);
        }
        for (int one : s) {
            no.when(isNothing(one), -3);
        }
        return no;
    }

    private No rowsAndBird(int bird, int... s) {
        No no = new No().when(!aBird(bird), -1);
        return no.when(true, rows(s).number);
    }

    private List<Integer> ints(int s) {
        List<Integer> out = new ArrayList<>();
        if (isRow(s)) {
            for (long cell : (long[]) shelves[s]) {
                out.add((int) cell);
            }
        }
        return out;
    }

    private static boolean within(List<Integer> row, int least, int most) {
        for (int one : row) {
            if (one < least || one > most) {
                return false;
            }
        }
        return true;
    }

    private boolean isPie(int s) {
        return ints(s).size() <= 8 && within(ints(s), 0, 9);
    }

    // ---- what is said, what it brings

    private List<Integer> speech(int bird, List<Integer> pie) {
        return world.bird(bird).said(pie, world.heat);
    }

    private int end(List<Integer> signs, int from) {
        int at = from;
        for (int sign : signs) {
            at = world.table[at][sign % 5];
        }
        return at;
    }

    private int ills(List<Integer> signs) {
        int many = 0;
        for (int i = 1; i <= signs.size(); i++) {
            if (world.ill[end(signs.subList(0, i), world.state)]) {
                many++;
            }
        }
        return many;
    }

    private static List<List<Integer>> allPies(int k) {
        List<List<Integer>> out = new ArrayList<>();
        if (k == 0) {
            out.add(new ArrayList<>());
            return out;
        }
        for (List<Integer> less : allPies(k - 1)) {
            for (int stuffing = 0; stuffing < 10; stuffing++) {
                List<Integer> more = new ArrayList<>(less);
                more.add(stuffing);
                out.add(more);
            }
        }
        return out;
    }

    private static List<List<Integer>> allFillings(List<Integer> pie) {
        List<List<Integer>> out = new ArrayList<>();
        int at = pie.indexOf(-1);
        if (at < 0) {
            out.add(pie);
            return out;
        }
        for (int stuffing = 0; stuffing < 10; stuffing++) {
            List<Integer> more = new ArrayList<>(pie);
            more.set(at, stuffing);
            out.addAll(allFillings(more));
        }
        return out;
    }

    // ---- the calls

    int row(int s, int sort, int n) {
        No no = new No().when(!shelf(s), -1).when(n < 0, -4).when(sort < 0 || sort > 3, -6).when(n > 160, -7);
        if (no.number != 0) {
            return no(no);
        }
        shelves[s] = new long[n];
        sorts[s] = sort;
        return 1;
    }

    int set(int s, int i, long v) {
        No no = rows(s);
        no.when(i < 0 || i >= ints(s).size(), -5);
        if (no.number != 0) {
            return no(no);
        }
        int drop = new int[] {56, 48, 32, 0}[sorts[s]];
        ((long[]) shelves[s])[i] = v << drop >> drop;
        return 1;
    }

    int copy(int p, int q, int i, int j, int n) {
        No no = new No().when(!shelf(p) || !shelf(q), -1).when(isBird(p) || isBird(q), -2)
            .when(isRow(p) && isRow(q) && sorts[p] != sorts[q], -2).when(isNothing(p) || isNothing(q), -3)
            .when(n < 0, -4).when(i < 0 || j < 0, -5)
            .when((long) i + n > ints(p).size() || (long) j + n > ints(q).size(), -5);
        if (no.number != 0) {
            return no(no);
        }
        long[] ahead = ((long[]) shelves[p]).clone();
        for (int at = 0; at < n; at++) {
            ((long[]) shelves[q])[j + at] = ahead[i + at];
        }
        return 1;
    }

    long element(int s, int i) {
        return isRow(s) && i >= 0 && i < ints(s).size() ? ((long[]) shelves[s])[i] : 0;
    }

    int show(int s, int bird) {
        if (!shelf(s) || bird != -1 && !aBird(bird)) {
            return no(new No().when(true, -1));
        }
        shelves[s] = bird == -1 ? null : Integer.valueOf(bird);
        return bird == -1 ? 0 : 1;
    }

    int holds(int s) {
        if (isRow(s)) {
            return 100 + sorts[s];
        }
        return isBird(s) ? (Integer) shelves[s] : -1;
    }

    int says(int s, int kind) {
        No no = new No().when(!shelf(s) || kind < 0 || kind > 6, -1).when(isRow(s), -2);
        no.when(no.number == 0 && isBird(s) && !isOne(world.bird((Integer) shelves[s]), kind), -2);
        no.when(isNothing(s), -3);
        if (no.number != 0) {
            return farNo(no);
        }
        Bird bird = world.bird((Integer) shelves[s]);
        if (kind == 0) {
            return bird.mouth;
        }
        if (kind == 2 || kind == 5) {
            return bird.said(Arrays.asList(7, 8, 9), world.heat).size();
        }
        if (kind == 4) {
            List<Integer> signs = bird.said(Arrays.asList(2, 1, 0), world.heat);
            return signs.isEmpty() ? -1 : signs.get(0);
        }
        return bird.k;
    }

    int bird(int kind, int a, int mouth) {
        No no = new No().when(kind < 0 || kind > 6, -1).when(a < 0 || a > 9 || mouth < 0 || mouth > 19, -6)
            .when(world.birds.size() == 7, -7);
        if (no.number != 0) {
            return no(no);
        }
        world.birds.add(new int[] {kind, a, mouth});
        return world.birds.size() - 1;
    }

    private int troubles() {
        int bits = 0;
        for (int state = 0; state < 8; state++) {
            if (world.ill[state]) {
                bits += 1 << state;
            }
        }
        return bits;
    }

    int ask(int what, int v) {
        No no = new No().when(what < 0 || what > 2 || v < 0, -6);
        no.when(what == 0 && v > 9 || what == 1 && v > 7 || what == 2 && v > 255, -6);
        if (no.number != 0) {
            return no(no);
        }
        int was = what == 0 ? world.heat : what == 1 ? world.state : troubles();
        if (what == 0) {
            world.heat = v;
        } else if (what == 1) {
            world.state = v;
        } else {
            for (int state = 0; state < 8; state++) {
                world.ill[state] = (v >> state) % 2 == 1;
            }
        }
        return was;
    }

    int table(int state, int root, int v) {
        if (state < 0 || state > 7 || root < 0 || root > 4 || v < 0 || v > 7) {
            return no(new No().when(true, -6));
        }
        int was = world.table[state][root];
        world.table[state][root] = v;
        return was;
    }

    int comes(int state, int root) {
        if (state < 0 || state > 7 || root < 0 || root > 4) {
            return no(new No().when(true, -5));
        }
        return world.table[state][root];
    }

    int birdOf(int bird, int what) {
        if (!aBird(bird) || what < 0 || what > 2) {
            return no(new No().when(true, -5));
        }
        return world.birds.get(bird)[what];
    }

    int bakery(int s) {
        No no = rows(s);
        if (no.number != 0) {
            return no(no);
        }
        ModelText text = new ModelText(ints(s), 7 - world.birds.size());
        fault = text.fault();
        if (fault != -1) {
            return no(new No().when(true, -6));
        }
        for (ModelText.Item item : text.items) {
            tell(item);
        }
        return text.items.size();
    }

    private void tell(ModelText.Item item) {
        int first = item.numbers.get(0);
        switch (item.word) {
            case "bird":
                world.birds.add(new int[] {first, item.numbers.get(1), item.numbers.get(2)});
                break;
            case "heat":
                world.heat = first;
                break;
            case "state":
                world.state = first;
                break;
            case "goes":
                world.table[first][item.numbers.get(1)] = item.numbers.get(2);
                break;
            default:
                world.ill[first] = item.word.equals("ill");
                break;
        }
    }

    int fault() {
        return fault;
    }

    int said(int s, int bird, int i) {
        No no = rowsAndBird(bird, s).when(!isPie(s), -6);
        if (no.number != 0) {
            return no(no);
        }
        List<Integer> signs = speech(bird, ints(s));
        if (i == -1) {
            return signs.size();
        }
        return i >= 0 && i < signs.size() ? signs.get(i) : no(new No().when(true, -5));
    }

    int brings(int s, int bird, int what) {
        No no = rowsAndBird(bird, s).when(what < 0 || what > 1, -5).when(!isPie(s), -6);
        if (no.number != 0) {
            return no(no);
        }
        List<Integer> signs = speech(bird, ints(s));
        return what == 0 ? end(signs, world.state) : ills(signs);
    }

    int soonest(int bird, int state, int i) {
        No no = new No().when(!aBird(bird), -1).when(state < 0 || state > 7, -6);
        if (no.number != 0) {
            return farNo(no);
        }
        for (int k = 0; k <= 3; k++) {
            for (List<Integer> pie : allPies(k)) {
                if (end(speech(bird, pie), world.state) == state) {
                    if (i == -1) {
                        return k;
                    }
                    return i >= 0 && i < k ? pie.get(i) : farNo(new No().when(true, -5));
                }
            }
        }
        return i == -1 ? -1 : farNo(new No().when(true, -5));
    }

    int safe(int bird) {
        if (!aBird(bird)) {
            return no(new No().when(true, -1));
        }
        int many = 0;
        for (List<Integer> pie : allPies(2)) {
            if (ills(speech(bird, pie)) == 0) {
                many++;
            }
        }
        return many;
    }

    int fits(int s, int p, int bird, int what) {
        No no = rowsAndBird(bird, s, p).when(what < 0 || what > 2, -5).when(!isPie(s), -6);
        if (no.number != 0) {
            return no(no);
        }
        int[] own = world.birds.get(bird);
        int bits = 0;
        for (int v = 0; v < new int[] {7, 10, 20}[what]; v++) {
            Bird other = made(what == 0 ? v : own[0], bird, own[1], what == 2 ? v : own[2]);
            if (other.said(ints(s), what == 1 ? v : world.heat).equals(ints(p))) {
                bits += 1 << v;
            }
        }
        return bits;
    }

    int pies(int p, int bird, int k, int i) {
        No no = rowsAndBird(bird, p).when(k < 0 || k > 3, -6).when(i != -1 && (i < 0 || i >= k), -5);
        if (no.number != 0) {
            return farNo(no);
        }
        List<List<Integer>> fitting = allPies(k);
        fitting.removeIf(pie -> !speech(bird, pie).equals(ints(p)));
        if (i == -1) {
            return fitting.size();
        }
        return fitting.isEmpty() ? -1 : fitting.get(0).get(i);
    }

    int next(int bird) {
        if (!aBird(bird)) {
            return farNo(new No().when(true, -1));
        }
        int[] own = world.birds.get(bird);
        int[] worst = new int[10];
        for (int stuffing = 0; stuffing < 10; stuffing++) {
            List<List<Integer>> speeches = new ArrayList<>();
            for (int kind = 0; kind < 7; kind++) {
                speeches.add(made(kind, bird, own[1], own[2]).said(Arrays.asList(stuffing), world.heat));
            }
            for (List<Integer> one : speeches) {
                worst[stuffing] = Math.max(worst[stuffing], Collections.frequency(speeches, one));
            }
        }
        int least = 7;
        for (int one : worst) {
            least = Math.min(least, one);
        }
        for (int stuffing = 0; stuffing < 10; stuffing++) {
            if (least < 7 && worst[stuffing] == least) {
                return stuffing;
            }
        }
        return -1;
    }

    int chance(int s, int bird, int state, int what) {
        No no = rowsAndBird(bird, s).when(what < 0 || what > 1, -5);
        no.when(ints(s).size() > 8 || !within(ints(s), -1, 9), -6);
        no.when(Collections.frequency(ints(s), -1) > 3, -6).when(what == 0 && (state < 0 || state > 7), -6);
        if (no.number != 0) {
            return no(no);
        }
        long sum = 0;
        List<List<Integer>> all = allFillings(ints(s));
        for (List<Integer> pie : all) {
            List<Integer> signs = speech(bird, pie);
            sum += what == 1 ? ills(signs) : end(signs, world.state) == state ? 1 : 0;
        }
        return (int) (sum * (what == 1 ? 1000 : 1000000) / all.size());
    }

    int minutes(int s, int bird) {
        No no = rowsAndBird(bird, s).when(!isPie(s), -6);
        if (no.number != 0) {
            return farNo(no);
        }
        for (int heat = world.heat; heat >= 0; heat--) {
            if (ills(world.bird(bird).said(ints(s), heat)) == 0) {
                return world.heat - heat;
            }
        }
        return -1;
    }

    int after(int s, int bird, int n) {
        No no = rowsAndBird(bird, s).when(!isPie(s) || n < 0 || n > 40, -6);
        if (no.number != 0) {
            return no(no);
        }
        List<Integer> all = new ArrayList<>();
        for (int time = 0; time < n; time++) {
            all.addAll(speech(bird, ints(s)));
        }
        return end(all, world.state);
    }

    int kings(int s, int bird, int what) {
        No no = rowsAndBird(bird, s).when(what < 0 || what > 1, -5).when(!isPie(s) || ints(s).isEmpty(), -6);
        if (no.number != 0) {
            return no(no);
        }
        int[] fewest = new int[10];
        for (int heat = 0; heat < 10; heat++) {
            fewest[heat] = 99;
            for (int last = 0; last < 10; last++) {
                List<Integer> pie = ints(s);
                pie.set(pie.size() - 1, last);
                fewest[heat] = Math.min(fewest[heat], ills(world.bird(bird).said(pie, heat)));
            }
        }
        int by = 0;
        for (int heat = 9; heat >= 0; heat--) {
            if (fewest[heat] >= fewest[by] && (fewest[heat] > fewest[by] || heat < by)) {
                by = heat;
            }
        }
        return what == 0 ? fewest[by] : by;
    }

    int tribes(int s, int p, int i) {
        List<Integer> wishes = ints(p);
        No no = rows(s, p).when(!isPie(s) || wishes.size() > 7 || !within(wishes, 0, 7), -6);
        no.when(i != -1 && (i < 0 || i >= wishes.size()), -5);
        if (no.number != 0) {
            return farNo(no);
        }
        List<Integer> brought = new ArrayList<>();
        for (int bird = 0; bird < world.birds.size(); bird++) {
            brought.add(end(speech(bird, ints(s)), world.state));
        }
        List<Integer> best = bestParting(wishes, brought, new ArrayList<>());
        if (i != -1) {
            return best.get(i) == NOBODY ? -1 : best.get(i);
        }
        return best.size() - Collections.frequency(best, NOBODY);
    }

    /** NONE, where it is behind all BIRDS. */
    private static final int NOBODY = 9;

    /** Tries every parting, by rows; a later one is better only if it serves more. */
    private static List<Integer> bestParting(List<Integer> wishes, List<Integer> brought, List<Integer> begun) {
        int at = begun.size();
        if (at == wishes.size()) {
            return begun;
        }
        List<Integer> best = null;
        for (int bird = 0; bird <= NOBODY; bird++) {
            boolean may = bird == NOBODY
                || bird < brought.size() && !begun.contains(bird) && brought.get(bird).equals(wishes.get(at));
            if (may) {
                List<Integer> more = new ArrayList<>(begun);
                more.add(bird);
                List<Integer> whole = bestParting(wishes, brought, more);
                if (best == null
                    || Collections.frequency(whole, NOBODY) < Collections.frequency(best, NOBODY)) {
                    best = whole;
                }
            }
        }
        return best;
    }

    int alike(int bird, int other) {
        if (!aBird(bird) || !aBird(other)) {
            return no(new No().when(true, -1));
        }
        List<List<Integer>> all = allPies(2);
        all.removeIf(pie -> !speech(bird, pie).equals(speech(other, pie)));
        return all.size();
    }

    int judge(int s, int p, int n) {
        No no = rows(s, p).when(n < 0, -4).when(2L * n > ints(p).size(), -5).when(!isPie(s) || n > 40, -6);
        if (no.number != 0) {
            return farNo(no);
        }
        int at = world.state;
        for (int two = 0; two < n; two++) {
            int bird = ints(p).get(two + two);
            if (!aBird(bird) || end(speech(bird, ints(s)), at) != ints(p).get(two + two + 1)) {
                return two;
            }
            at = ints(p).get(two + two + 1);
        }
        return -1;
    }

    private void bakeIt(int bird, List<Integer> pie) {
        List<Integer> signs = speech(bird, pie);
        world.suffered += ills(signs);
        world.state = end(signs, world.state);
        world.bakes += 1;
    }

    int bake(int s, int bird) {
        No no = rowsAndBird(bird, s).when(!isPie(s), -6);
        if (no.number != 0) {
            return no(no);
        }
        bakeIt(bird, ints(s));
        return world.state;
    }

    int years(int n) {
        No no = new No().when(world.birds.isEmpty(), -5).when(n < 1 || n > 60, -6);
        if (no.number != 0) {
            return no(no);
        }
        for (int time = 0; time < n; time++) {
            int bird = world.draw(world.birds.size());
            world.heat = world.draw(10);
            int first = world.draw(10);
            int middle = world.draw(10);
            int last = world.draw(10);
            bakeIt(bird, Arrays.asList(first, middle, last));
        }
        return world.suffered;
    }

    int seed(int v) {
        int was = world.seed;
        world.seed = v;
        return was;
    }

    int act(int bird, int move, int x) {
        trace = new ArrayList<>();
        if (!aBird(bird) || move < 0 || move > 2) {
            return 0;
        }
        Bird one = world.bird(bird);
        one.trace = trace;
        return move == 0 ? one.sings(x) : move == 1 ? one.steams(x) : one.falls(x);
    }

    int trace(int i) {
        return i >= 0 && i < trace.size() && i < 20 ? trace.get(i) : -1;
    }

    int image() {
        kept = world.twin();
        return world.birds.size();
    }

    int restore() {
        if (kept == null) {
            return no(new No().when(true, -6));
        }
        world = kept.twin();
        for (int s = 0; s < 8; s++) {
            if (isBird(s) && (Integer) shelves[s] >= world.birds.size()) {
                shelves[s] = null;
            }
        }
        return world.birds.size();
    }

    int status(int what) {
        if (what >= 11 && what <= 17) {
            return refusals[what - 10];
        }
        int[] all = {world.birds.size(), world.heat, world.state, troubles(), world.bakes, world.suffered, world.seed,
            trace.size()};
        return what >= 0 && what < all.length ? all[what] : -1;
    }
}
