import java.util.Random;

/** Draws runs of calls: mostly sound ones, some at the edges, some far off. */
final class Runs {
    static final String[] CALLS = {"row", "set", "copy", "element", "show", "holds", "says", "bird", "ask", "table",
        "comes", "birdOf", "bakery", "fault", "said", "brings", "soonest", "safe", "fits", "pies", "next", "chance",
        "minutes", "after", "kings", "tribes", "alike", "judge", "bake", "years", "seed", "act", "trace", "image",
        "restore", "status"};

    private static final int[] FAR_OFF = {Integer.MIN_VALUE, Integer.MIN_VALUE + 1, -1000, -17, -2, 8, 9, 10, 11, 20,
        40, 41, 60, 61, 160, 161, 255, 256, 1000, 1 << 30, Integer.MAX_VALUE - 1, Integer.MAX_VALUE};

    private final Random random;
    /** How many of a hundred arguments are drawn from anywhere. */
    private final int wild;

    Runs(long seed, int wild) {
        this.random = new Random(seed);
        this.wild = wild;
    }

    int below(int n) {
        return random.nextInt(n);
    }

    /** From least to most, or, rarely, one of the numbers around or far beyond. */
    int in(int least, int most) {
        if (below(100) < wild) {
            switch (below(4)) {
                case 0:
                    return least - 1;
                case 1:
                    return most + 1;
                case 2:
                    return random.nextInt();
                default:
                    return FAR_OFF[below(FAR_OFF.length)];
            }
        }
        return least + below(most - least + 1);
    }

    int noneOr(int most) {
        return below(3) == 0 ? -1 : in(0, most);
    }

    Object[] arguments(String call) {
        switch (call) {
            case "row":
                return of(in(0, 7), in(0, 3), below(20) == 0 ? in(0, 160) : in(0, 9));
            case "set":
                return new Object[] {in(0, 7), in(0, 6), value()};
            case "copy":
                return of(in(0, 7), in(0, 7), in(0, 3), in(0, 3), in(0, 4));
            case "element":
                return of(in(0, 7), in(0, 9));
            case "show":
                return of(in(0, 7), noneOr(6));
            case "holds":
            case "bakery":
                return of(in(0, 7));
            case "says":
                return of(in(0, 7), in(0, 6));
            case "bird":
                return of(in(0, 6), in(0, 9), in(0, 19));
            case "ask":
                int what = in(0, 2);
                return of(what, in(0, what == 0 ? 9 : what == 1 ? 7 : 255));
            case "table":
                return of(in(0, 7), in(0, 4), in(0, 7));
            case "comes":
                return of(in(0, 7), in(0, 4));
            case "birdOf":
                return of(in(0, 6), in(0, 2));
            case "said":
                return of(in(0, 7), in(0, 6), noneOr(7));
            case "brings":
            case "kings":
                return of(in(0, 7), in(0, 6), in(0, 1));
            case "soonest":
                return of(in(0, 6), in(0, 7), noneOr(2));
            case "safe":
            case "next":
                return of(in(0, 6));
            case "fits":
                return of(in(0, 7), in(0, 7), in(0, 6), in(0, 2));
            case "pies":
                return of(in(0, 7), in(0, 6), in(0, 3), noneOr(2));
            case "chance":
                return of(in(0, 7), in(0, 6), in(0, 7), in(0, 1));
            case "minutes":
            case "bake":
                return of(in(0, 7), in(0, 6));
            case "after":
                return of(in(0, 7), in(0, 6), in(0, 40));
            case "tribes":
                return of(in(0, 7), in(0, 7), noneOr(6));
            case "alike":
                return of(in(0, 6), in(0, 6));
            case "judge":
                return of(in(0, 7), in(0, 7), in(0, 3));
            case "years":
                return of(in(1, 60));
            case "seed":
                return of(random.nextInt());
            case "act":
                return of(in(0, 6), in(0, 2), below(2) == 0 ? random.nextInt() : in(-20, 20));
            case "trace":
                return of(in(0, 20));
            case "status":
                return of(in(0, 17));
            default:
                return new Object[0];
        }
    }

    private Object value() {
        int kind = below(12);
        if (kind == 0) {
            return random.nextLong();
        }
        if (kind == 1) {
            return (random.nextLong() << 32) + below(10);
        }
        return kind == 2 ? -1L : (long) in(0, 9);
    }

    private static Object[] of(int... all) {
        Object[] out = new Object[all.length];
        for (int i = 0; i < all.length; i++) {
            out[i] = all[i];
        }
        return out;
    }

    /** A BAKERY's text, mostly sound. */
    String text() {
        StringBuilder out = new StringBuilder();
        int items = 1 + below(5);
        for (int i = 0; i < items; i++) {
            out.append(i == 0 ? "" : ";");
            out.append(item());
        }
        if (below(3) == 0 && out.length() > 0) {
            spoil(out);
        }
        return out.toString();
    }

    private void spoil(StringBuilder out) {
        int at = below(out.length());
        switch (below(4)) {
            case 0:
                out.setLength(at);
                break;
            case 1:
                out.deleteCharAt(at);
                break;
            case 2:
                out.insert(at, sign());
                break;
            default:
                out.setCharAt(at, sign());
                break;
        }
    }

    private char sign() {
        String all = "birdheatstategoesillwell 0123456789;;  :/@Z\u00e9";
        return all.charAt(below(all.length()));
    }

    private String item() {
        switch (below(6)) {
            case 0:
                return "bird " + number(6) + " " + number(9) + " " + number(19);
            case 1:
                return "heat " + number(9);
            case 2:
                return "state " + number(7);
            case 3:
                return "goes " + number(7) + " " + number(4) + " " + number(7);
            case 4:
                return "ill " + number(7);
            default:
                return "well " + number(7);
        }
    }

    private String number(int most) {
        int v = below(25) == 0 ? below(100) : below(most + 1);
        return (v < 10 && below(6) == 0 ? "0" : "") + v;
    }
}
