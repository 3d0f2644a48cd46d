import java.util.Arrays;

/** The part of BoundsOfBakeryTest for BAKERIES read from ROWS of letters, and the FAULT. */
final class BoundsOfTexts {
    private static final String ALL_ITEMS = "bird 6 9 19;heat 9;state 7;goes 7 4 7;ill 7;well 7";
    /** How many letters of them are a whole text. */
    private static final int[] WHOLE = {10, 11, 18, 26, 37, 43, 50};

    private final Checks c;

    BoundsOfTexts(Checks c) {
        this.c = c;
    }

    void all() {
        items();
        eachItemAlone();
        manyItems();
        semicolons();
        numbersOfItems();
        blanks();
        digits();
        toldOver();
        orNothing();
        room();
        roomWhenWhole();
        tooEarly();
        eachPlace();
        letters();
        faultOfNumbers();
        noFault();
    }

    private static PieFunnels withBirds(int birds) {
        PieFunnels x = new PieFunnels();
        for (int i = 0; i < birds; i++) {
            x.bird(i, i, i);
        }
        return x;
    }

    private PieFunnels reads(PieFunnels x, String text, int items) {
        Checks.text(x, 0, text);
        c.due("bakery of <" + text + ">", x.bakery(0), items);
        c.due("fault of <" + text + ">", x.fault(), -1);
        return x;
    }

    /** Nothing may be told of it; it is looked at by what the text could tell. */
    private PieFunnels faults(PieFunnels x, String text, int fault) {
        int[] ahead = seen(x);
        Checks.text(x, 0, text);
        int counted = x.status(16);
        c.due("bakery of <" + text + ">", x.bakery(0), -6);
        c.due("fault of <" + text + ">", x.fault(), fault);
        c.due("REFUSALS -6 by <" + text + ">", x.status(16), counted + 1);
        c.that("nothing is told by <" + text + ">", Arrays.equals(ahead, seen(x)));
        return x;
    }

    private static int[] seen(PieFunnels x) {
        return new int[] {x.status(0), x.status(1), x.status(2), x.status(3), x.comes(0, 0), x.comes(7, 4),
            x.comes(0, 4), x.comes(7, 0)};
    }

    private void items() {
        c.sentence(0, "bird K A M; heat N; state S; goes S R T (in TABLE); ill S; well S.");
        PieFunnels x = reads(withBirds(0), ALL_ITEMS, 6);
        c.asks(x, 1, "status", 0);
        c.asks(x, 6, "birdOf", 0, 0);
        c.asks(x, 9, "birdOf", 0, 1);
        c.asks(x, 19, "birdOf", 0, 2);
        c.asks(x, 9, "status", 1);
        c.asks(x, 7, "status", 2);
        c.asks(x, 7, "comes", 7, 4);
        c.asks(x, 0, "status", 3);
        PieFunnels y = reads(withBirds(0), "bird 0 0 0;heat 0;goes 0 0 0;ill 0;ill 7", 5);
        c.asks(y, 0, "status", 1);
        c.asks(y, 0, "comes", 0, 0);
        c.asks(y, 129, "status", 3);
        c.sentence(14, "A BAKERY by the ROW in SHELF s: how many ITEMS");
        reads(withBirds(0), "heat 1", 1);
        reads(withBirds(0), "heat 1;heat 1", 2);
    }

    private void eachItemAlone() {
        c.sentence(0, "bird K A M; heat N; state S; goes S R T (in TABLE); ill S; well S.");
        String[] texts = {"bird 3 2 1", "heat 3", "state 3", "goes 0 0 3", "goes 7 4 3", "goes 0 4 3", "goes 7 0 3",
            "ill 3", "ill 1", "well 1", "well 3"};
        // what the text tells, as a call
        String[] calls = {"bird", "ask", "ask", "table", "table", "table", "table", "ask", "ask", "ask", "ask"};
        long[][] arguments = {{3, 2, 1}, {0, 3}, {1, 3}, {0, 0, 3}, {7, 4, 3}, {0, 4, 3}, {7, 0, 3}, {2, 10}, {2, 2},
            {2, 0}, {2, 2}};
        for (int i = 0; i < texts.length; i++) {
            PieFunnels x = withBirds(2);
            PieFunnels twin = Checks.text(withBirds(2), 0, texts[i]);
            x.ask(2, 2);
            twin.ask(2, 2);
            Calls.on(twin, calls[i], arguments[i]);
            reads(x, texts[i], 1);
            c.that("<" + texts[i] + "> tells one thing", Twins.all(x).equals(Twins.all(twin)));
        }
    }

    private void manyItems() {
        c.sentence(0, "A BAKERY is read from a ROW of letters: ITEM, then any number of times ; and ITEM");
        StringBuilder text = new StringBuilder("ill 00");
        for (int i = 1; i < 26; i++) {
            text.append(i < 5 ? ";ill 0" : ";ill ").append(i % 8);
        }
        c.due("all the letters that a ROW may have", text.length(), 160);
        PieFunnels x = reads(withBirds(0), text.toString(), 26);
        c.asks(x, 255, "status", 3);
        text.setCharAt(159, '8');
        faults(withBirds(0), text.toString(), 159);
        text.setCharAt(159, ';');
        faults(withBirds(0), text.toString(), 159);
        text.setCharAt(157, '5');
        text.setCharAt(158, ';');
        faults(withBirds(0), text.toString(), 157);
    }

    private void semicolons() {
        c.sentence(0, "ITEM, then any number of times ; and ITEM");
        faults(withBirds(0), ";", 0);
        faults(withBirds(0), ";heat 1", 0);
        faults(withBirds(0), "heat 1;", 7);
        faults(withBirds(0), "heat 1;;heat 1", 7);
        faults(withBirds(0), "heat 1heat 1", 6);
        faults(withBirds(0), "heat 1 heat 1", 6);
        faults(withBirds(0), "heat 1 ;heat 1", 6);
        faults(withBirds(0), "heat 1; heat 1", 7);
        faults(withBirds(0), "heat 1:heat 1", 6);
    }

    private void numbersOfItems() {
        c.sentence(0, "bird K A M; heat N; state S; goes S R T (in TABLE); ill S; well S.");
        faults(withBirds(0), "bird 7 0 0", 5);
        faults(withBirds(0), "bird 6 10 0", 7);
        faults(withBirds(0), "bird 6 9 20", 9);
        faults(withBirds(0), "heat 10", 5);
        faults(withBirds(0), "state 8", 6);
        faults(withBirds(0), "goes 8 0 0", 5);
        faults(withBirds(0), "goes 7 5 0", 7);
        faults(withBirds(0), "goes 7 4 8", 9);
        faults(withBirds(0), "ill 8", 4);
        faults(withBirds(0), "well 8", 5);
        faults(withBirds(0), "bird 6 9", 8);
        faults(withBirds(0), "bird 6 9 19 1", 11);
        faults(withBirds(0), "heat 9 1", 6);
        faults(withBirds(0), "goes 7 4", 8);
        faults(withBirds(0), "goes 7 4 7 1", 10);
    }

    private void blanks() {
        c.sentence(0, "One blank between words and NUMBERS (1 to 2 digits).");
        faults(withBirds(0), "heat9", 4);
        faults(withBirds(0), "heat  9", 5);
        faults(withBirds(0), "heat\t9", 4);
        faults(withBirds(0), " heat 9", 0);
        faults(withBirds(0), "heat 9 ", 6);
        faults(withBirds(0), "bird 6  9 19", 7);
        faults(withBirds(0), "bird 6 9  19", 9);
        faults(withBirds(0), "goes 747", 5);
        faults(withBirds(0), "goes 1 2,3", 8);
        faults(withBirds(0), "he at 9", 2);
    }

    private void digits() {
        c.sentence(0, "One blank between words and NUMBERS (1 to 2 digits).");
        PieFunnels x = reads(withBirds(0), "bird 06 09 09;heat 09;state 07;goes 07 04 07;ill 07;ill 00", 6);
        c.asks(x, 6, "birdOf", 0, 0);
        c.asks(x, 9, "birdOf", 0, 2);
        c.asks(x, 7, "comes", 7, 4);
        c.asks(x, 129, "status", 3);
        faults(withBirds(0), "heat 009", 7);
        faults(withBirds(0), "heat 000", 7);
        faults(withBirds(0), "bird 0 0 190", 11);
        faults(withBirds(0), "bird 000 0 0", 7);
        faults(withBirds(0), "heat ", 5);
        faults(withBirds(0), "heat ;ill 1", 5);
        faults(withBirds(0), "heat -1", 5);
        faults(withBirds(0), "heat +1", 5);
        faults(withBirds(0), "heat /", 5);
        faults(withBirds(0), "heat :", 5);
        faults(withBirds(0), "heat 0/", 6);
        faults(withBirds(0), "heat 0:", 6);
    }

    private void toldOver() {
        c.sentence(0, "All is told over what there is, or nothing");
        PieFunnels x = withBirds(2);
        x.ask(0, 1);
        x.ask(1, 2);
        x.ask(2, 6);
        x.table(0, 0, 5);
        reads(x, "ill 1;ill 0;well 2;well 7;bird 4 5 6", 5);
        c.asks(x, 3, "status", 0);
        c.asks(x, 1, "status", 1);
        c.asks(x, 2, "status", 2);
        c.asks(x, 3, "status", 3);
        c.asks(x, 5, "comes", 0, 0);
        c.asks(x, 1, "birdOf", 1, 0);
        c.asks(x, 4, "birdOf", 2, 0);
        reads(x, "heat 2;heat 3;goes 0 0 1;goes 0 0 2", 4);
        c.asks(x, 3, "status", 1);
        c.asks(x, 2, "comes", 0, 0);
        c.asks(x, 3, "status", 0);
    }

    private void orNothing() {
        c.sentence(0, "All is told over what there is, or nothing");
        String[] told = {"bird 1 1 1", "heat 0", "state 3", "goes 0 0 7", "goes 7 4 3", "ill 3", "well 0"};
        for (String item : told) {
            PieFunnels x = withBirds(1);
            x.ask(2, 1);
            faults(x, item + ";", item.length() + 1);
            faults(x, item + ";heat 10", item.length() + 6);
            faults(x, "heat 10;" + item, 5);
            reads(x, item, 1);
        }
    }

    private void room() {
        c.sentence(0, "(what there is no room for can't stand: its word, once that is whole)");
        String one = "bird 6 9 19";
        PieFunnels last = reads(withBirds(6), one, 1);
        c.asks(last, 6, "birdOf", 6, 0);
        c.asks(last, 9, "birdOf", 6, 1);
        c.asks(last, 19, "birdOf", 6, 2);
        c.asks(last, 7, "status", 0);
        faults(withBirds(7), one, 0);
        faults(withBirds(6), one + ";" + one, 12);
        faults(withBirds(7), "heat 1;" + one, 7);
        PieFunnels x = reads(withBirds(0), "bird 0 0 0;bird 1 0 0;bird 2 0 0;bird 3 0 0;bird 4 0 0;bird 5 0 0;bird 6 0 0",
            7);
        c.asks(x, 7, "status", 0);
        c.asks(x, 6, "birdOf", 6, 0);
        faults(withBirds(0), "bird 0 0 0;bird 1 0 0;bird 2 0 0;bird 3 0 0;bird 4 0 0;bird 5 0 0;bird 6 0 0;bird 0 0 0",
            77);
        reads(withBirds(7), "heat 1;state 2;goes 0 0 0;ill 1;well 1", 5);
    }

    private void roomWhenWhole() {
        c.sentence(0, "Whether there is room for a word is asked when its letters stand whole: until then the first "
            + "element that is not as it is the FAULT, or the number of elements.");
        faults(withBirds(7), "b", 1);
        faults(withBirds(7), "bi", 2);
        faults(withBirds(7), "bir", 3);
        faults(withBirds(7), "bird", 0);
        faults(withBirds(7), "bird ", 0);
        faults(withBirds(7), "bird 9 99 99", 0);
        faults(withBirds(7), "birdd", 0);
        faults(withBirds(7), "bx", 1);
        faults(withBirds(7), "bix", 2);
        faults(withBirds(7), "birx", 3);
        faults(withBirds(7), "bir ", 3);
        faults(withBirds(7), "heat 1;bir", 10);
        faults(withBirds(7), "heat 1;bird", 7);
        faults(withBirds(7), "heat 1;biird", 9);
        faults(withBirds(6), "bird", 4);
        faults(withBirds(6), "birdd", 4);
    }

    private void tooEarly() {
        c.sentence(0, "The FAULT: the first place at which an element can't stand as such texts go on (the number of "
            + "elements, if it ends too early)");
        for (int letters = 0; letters <= ALL_ITEMS.length(); letters++) {
            String text = ALL_ITEMS.substring(0, letters);
            if (Arrays.binarySearch(WHOLE, letters) >= 0) {
                reads(withBirds(0), text, Arrays.asList(text.split(";")).size());
            } else {
                faults(withBirds(0), text, letters);
            }
        }
    }

    private void eachPlace() {
        c.sentence(0, "The FAULT: the first place at which an element can't stand as such texts go on");
        for (int place = 0; place <= ALL_ITEMS.length(); place++) {
            for (char wrong : new char[] {'!', '\0', 'B', 'z'}) {
                String behind = place < ALL_ITEMS.length() ? ALL_ITEMS.substring(place + 1) : "";
                faults(withBirds(0), ALL_ITEMS.substring(0, place) + wrong + behind, place);
            }
        }
        for (int first = 0; first < 256; first++) {
            boolean begins = "bhsgiw".indexOf(first) >= 0;
            faults(withBirds(0), "" + (char) first, begins ? 1 : 0);
        }
    }

    private void letters() {
        c.sentence(0, "All is read as ints (of longs the lowest 32 bits).");
        long[] text = {'h', 'e', 'a', 't', ' ', '1'};
        for (int sort = 0; sort < 4; sort++) {
            PieFunnels x = Checks.fillSort(new PieFunnels(), 0, sort, text);
            c.asks(x, 1, "bakery", 0);
            c.asks(x, 1, "status", 1);
            // in bytes it is the same letter again
            x.set(0, 2, 'a' + 256);
            c.asks(x, sort == 0 ? 1 : -6, "bakery", 0);
            c.asks(x, sort == 0 ? -1 : 2, "fault");
            x.set(0, 2, 'a' + 65536);
            c.asks(x, sort < 2 ? 1 : -6, "bakery", 0);
            x.set(0, 2, 'a' + (1L << 32));
            c.asks(x, 1, "bakery", 0);
            c.asks(x, -1, "fault");
            x.set(0, 2, -1);
            c.asks(x, -6, "bakery", 0);
            c.asks(x, 2, "fault");
        }
    }

    private void faultOfNumbers() {
        c.sentence(0, "of a NUMBER that may not be the place of its first digit.");
        for (int v = 0; v < 100; v++) {
            number(v, "bird ", 6, " 0 0");
            number(v, "bird 0 ", 9, " 0");
            number(v, "bird 0 0 ", 19, "");
            number(v, "heat ", 9, "");
            number(v, "state ", 7, "");
            number(v, "goes ", 7, " 0 0");
            number(v, "goes 0 ", 4, " 0");
            number(v, "goes 0 0 ", 7, "");
            number(v, "ill ", 7, ";heat 1");
            number(v, "heat 1;well ", 7, "");
        }
        faults(withBirds(0), "heat 990", 5);
        faults(withBirds(0), "heat 99x", 5);
        faults(withBirds(0), "heat 99;x", 5);
        faults(withBirds(0), "heat 10;heat 20", 5);
    }

    private void number(int v, String ahead, int most, String behind) {
        String text = ahead + v + behind;
        if (v <= most) {
            reads(withBirds(0), text, text.indexOf(';') < 0 ? 1 : 2);
        } else {
            faults(withBirds(0), text, ahead.length());
        }
    }

    private void noFault() {
        c.sentence(15, "The FAULT of the latest bakery() that came to a ROW");
        PieFunnels x = withBirds(1);
        x.show(1, 0);
        c.sentence(15, "NONE: there was none, or none yet");
        c.asks(x, -1, "fault");
        c.asks(x, -3, "bakery", 0);
        c.asks(x, -2, "bakery", 1);
        c.asks(x, -1, "bakery", 8);
        c.asks(x, -1, "fault");
        faults(x, "ill 9", 4);
        c.sentence(15, "The FAULT of the latest bakery() that came to a ROW");
        c.asks(x, -3, "bakery", 2);
        c.asks(x, -2, "bakery", 1);
        c.asks(x, -1, "bakery", -1);
        c.asks(x, 4, "fault");
        faults(x, "", 0);
        reads(x, "ill 7", 1);
        c.sentence(14, "-6 a FAULT");
        c.asks(x, -1, "fault");
        x.row(0, 3, 0);
        c.asks(x, -6, "bakery", 0);
        c.asks(x, 0, "fault");
    }
}
