/** Counts the answers that are not due, and fills SHELVES for a test. */
final class Checks {
    private int wrong = 0;
    private int asked = 0;
    private String about = "";

    void about(String what) {
        about = what;
    }

    /** What is tested from here on: words of the document under a promise, or under its Terms (0). */
    void sentence(int promise, String words) {
        about = (promise == 0 ? "Terms: " : "promise " + promise + ": ") + words;
    }

    /** A call by its name, with the answer that is due. */
    void asks(PieFunnels x, long want, String call, long... arguments) {
        due(Calls.told(call, arguments), Calls.on(x, call, arguments), want);
    }

    void due(String call, long got, long want) {
        asked++;
        if (got != want) {
            fail(call + " answered " + got + ", due is " + want);
        }
    }

    void that(String what, boolean holds) {
        asked++;
        if (!holds) {
            fail("not so: " + what);
        }
    }

    void fail(String what) {
        wrong++;
        System.out.println(about + ": " + what);
    }

    /** Ends the program, with exit code 1 if there was a wrong answer. */
    void end() {
        System.out.println(wrong == 0 ? asked + " answers are as due" : wrong + " answers are not as due");
        if (wrong != 0) {
            System.exit(1);
        }
    }

    /** A ROW of ints. */
    static PieFunnels fill(PieFunnels x, int s, long... values) {
        return fillSort(x, s, 2, values);
    }

    static PieFunnels fillSort(PieFunnels x, int s, int sort, long... values) {
        x.row(s, sort, values.length);
        for (int i = 0; i < values.length; i++) {
            x.set(s, i, values[i]);
        }
        return x;
    }

    static PieFunnels text(PieFunnels x, int s, String text) {
        x.row(s, 1, text.length());
        for (int i = 0; i < text.length(); i++) {
            x.set(s, i, text.charAt(i));
        }
        return x;
    }
}
