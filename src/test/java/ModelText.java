import java.util.ArrayList;
import java.util.List;

/**
 * A BAKERY's text by the shapes that its elements may go on in: a list of all patterns an ITEM may have, tried side by
 * side, element by element.
 */
final class ModelText {
    static final class Item {
        final String word;
        final List<Integer> numbers = new ArrayList<>();

        Item(String word) {
            this.word = word;
        }
    }

    private static final String[] WORDS = {"bird", "heat", "state", "goes", "ill", "well"};
    private static final int[][] MOST = {{6, 9, 19}, {9}, {7}, {7, 4, 7}, {7}, {7}};

    final List<Item> items = new ArrayList<>();
    private final List<Integer> text;
    private int room;

    ModelText(List<Integer> text, int room) {
        this.text = text;
        this.room = room;
    }

    /** -1 where all is well. */
    int fault() {
        int at = 0;
        while (true) {
            int word = -1;
            int longest = 0;
            for (int w = 0; w < WORDS.length; w++) {
                int same = same(WORDS[w], at);
                if (same == WORDS[w].length()) {
                    word = w;
                }
                longest = Math.max(longest, same);
            }
            if (word < 0) {
                return at + longest;
            }
            if (word == 0 && room == 0) {
                return at;
            }
            room -= word == 0 ? 1 : 0;
            Item item = new Item(WORDS[word]);
            items.add(item);
            at += WORDS[word].length();
            for (int most : MOST[word]) {
                if (same(" ", at) == 0) {
                    return at;
                }
                at++;
                int length = digits(at);
                if (length == 0) {
                    return at;
                }
                int value = 0;
                for (int i = 0; i < length; i++) {
                    value = value * 10 + text.get(at + i) - '0';
                }
                if (value > most) {
                    return at;
                }
                item.numbers.add(value);
                at += length;
            }
            if (at == text.size()) {
                return -1;
            }
            if (same(";", at) == 0) {
                return at;
            }
            at++;
        }
    }

    /** How many letters of the word stand from a place on. */
    private int same(String word, int at) {
        int many = 0;
        while (many < word.length() && at + many < text.size() && text.get(at + many) == word.charAt(many)) {
            many++;
        }
        return many;
    }

    private int digits(int at) {
        int many = 0;
        while (many < 2 && at + many < text.size() && text.get(at + many) >= '0' && text.get(at + many) <= '9') {
            many++;
        }
        return many;
    }
}
