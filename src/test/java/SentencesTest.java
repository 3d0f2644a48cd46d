import java.io.IOException;
import java.nio.file.Files;
import java.nio.file.Path;
import java.util.ArrayList;
import java.util.Collections;
import java.util.List;
import java.util.Map;
import java.util.TreeMap;
import java.util.regex.Matcher;
import java.util.regex.Pattern;
import java.util.stream.Stream;

/**
 * The tests name the words of the document that they are of: those words have to stand there, each promise has to be
 * named whole, and so has each place in the Terms that tells of a boundary.
 */
public final class SentencesTest {
    /** What tells of a boundary in the Terms. */
    private static final Pattern BOUNDARY = Pattern.compile("\\d+ to \\d+|at most|at least|at first|modulo|NONE|wrapping"
        + "|no sign|\\(cut\\)|or nothing|too early|lowest|first \\d+ are kept|of 100|no room|once that is whole|fewest"
        + "|of several|just those|upper 16|first digit|One blank|any number of times|below 0|isn't there|may not be"
        + "|more than may be|holds NOTHING|each second|as many|\\bno [A-Z]+|next KIND above|first two that isn't"
        + "|in this order|nothing changes|nothing is changed|all seven|two SORTS|letters stand whole|number of elements");
    private static final Pattern NAMED = Pattern.compile("\\.sentence\\((\\d+),\\s*((?:\"(?:[^\"\\\\]|\\\\.)*\"[\\s+]*)+)\\)");
    private static final Pattern PART = Pattern.compile("\"((?:[^\"\\\\]|\\\\.)*)\"");

    private final Checks c = new Checks();
    /** The document's words by promise, and whether a test names each letter of them. */
    private final Map<Integer, String> words = new TreeMap<>();
    private final Map<Integer, boolean[]> named = new TreeMap<>();

    public static void main(String[] args) throws IOException {
        SentencesTest t = new SentencesTest();
        t.readDocument(Files.readString(Path.of("../shared/DOC.md")));
        t.readTests();
        t.promises();
        t.terms();
        t.c.end();
    }

    private static String plain(String text) {
        return text.replaceAll("\\s+", " ").trim();
    }

    private void readDocument(String text) {
        c.about("the document");
        int terms = text.indexOf("## Terms");
        int first = text.indexOf("## Promise 1:");
        put(0, text.substring(terms, first));
        for (int promise = 1; promise <= 37; promise++) {
            int from = text.indexOf("## Promise " + promise + ":");
            int to = text.indexOf("\n## ", from);
            String body = text.substring(from, to);
            // behind its name and its face
            put(promise, body.substring(body.lastIndexOf("`: ") + 3));
        }
        c.that("there is no further promise", !text.contains("## Promise 38"));
    }

    private void put(int promise, String text) {
        words.put(promise, plain(text));
        named.put(promise, new boolean[plain(text).length()]);
    }

    private void readTests() throws IOException {
        List<Path> files = new ArrayList<>();
        try (Stream<Path> all = Files.list(Path.of("src/test/java"))) {
            all.filter(file -> !file.endsWith("SentencesTest.java")).forEach(files::add);
        }
        Collections.sort(files);
        for (Path file : files) {
            c.about(file.getFileName().toString());
            String text = Files.readString(file);
            int found = 0;
            Matcher name = NAMED.matcher(text);
            while (name.find()) {
                found++;
                StringBuilder quote = new StringBuilder();
                Matcher part = PART.matcher(name.group(2));
                while (part.find()) {
                    quote.append(part.group(1));
                }
                name(Integer.parseInt(name.group(1)), quote.toString());
            }
            c.due("sentences that could be read", found, count(text, ".sentence("));
        }
    }

    private static int count(String text, String what) {
        return text.split(Pattern.quote(what), -1).length - 1;
    }

    private void name(int promise, String quote) {
        String all = words.getOrDefault(promise, "");
        Matcher place = Pattern.compile("(?<![-\\w])" + Pattern.quote(quote) + "(?!\\w)").matcher(all);
        boolean stands = false;
        while (place.find()) {
            stands = true;
            for (int i = place.start(); i < place.end(); i++) {
                named.get(promise)[i] = true;
            }
        }
        c.that("promise " + promise + " (0: the Terms) says <" + quote + ">", stands);
    }

    private void promises() {
        c.about("each promise is tested word by word");
        for (int promise = 1; promise <= 37; promise++) {
            StringBuilder left = new StringBuilder();
            for (int i = 0; i < words.get(promise).length(); i++) {
                boolean isWord = Character.isLetterOrDigit(words.get(promise).charAt(i));
                left.append(isWord && !named.get(promise)[i] ? words.get(promise).charAt(i) : ' ');
            }
            c.that("promise " + promise + ", no test names <" + plain(left.toString()) + ">", left.toString().isBlank());
        }
    }

    private void terms() {
        c.about("each boundary in the Terms is tested");
        Matcher place = BOUNDARY.matcher(words.get(0));
        while (place.find()) {
            int from = Math.max(0, place.start() - 40);
            int to = Math.min(words.get(0).length(), place.end() + 40);
            c.that("no test names <" + place.group() + "> in <" + words.get(0).substring(from, to) + ">",
                named.get(0)[place.start()] && named.get(0)[place.end() - 1]);
        }
    }
}
