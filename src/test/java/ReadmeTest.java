import java.io.IOException;
import java.nio.file.Files;
import java.nio.file.Path;
import java.util.regex.Matcher;
import java.util.regex.Pattern;

/** What README.md tells of the class: each call of its example answers so, and no call of the class is left out. */
public final class ReadmeTest {
    private static final Pattern CALL = Pattern.compile("(?m)^x\\.(\\w+)\\(([^)]*)\\);\\s*// (-?\\d+)\\b.*$");
    private static final Pattern MADE = Pattern.compile("(?m)^PieFunnels x = new PieFunnels\\(\\);$");

    private final Checks c = new Checks();

    public static void main(String[] args) throws IOException {
        ReadmeTest t = new ReadmeTest();
        String text = Files.readString(Path.of("README.md"));
        t.example(text);
        t.names(text);
        t.c.end();
    }

    private void example(String text) {
        c.about("the example");
        int from = text.indexOf("```java\n");
        String example = text.substring(from, text.indexOf("\n```\n", from) + 1);
        c.that("it makes an object", MADE.matcher(example).find());
        PieFunnels x = new PieFunnels();
        int asked = 0;
        Matcher call = CALL.matcher(example);
        while (call.find()) {
            asked++;
            c.asks(x, Long.parseLong(call.group(3)), call.group(1), arguments(call.group(2)));
        }
        c.due("calls of the example that could be read", asked, example.split("(?m)^x\\.", -1).length - 1);
        c.that("the example asks for something", asked > 0);
    }

    private static long[] arguments(String told) {
        if (told.isBlank()) {
            return new long[0];
        }
        String[] parts = told.split(",\\s*");
        long[] out = new long[parts.length];
        for (int i = 0; i < parts.length; i++) {
            out[i] = parts[i].equals("NONE") ? PieFunnels.NONE : Long.parseLong(parts[i]);
        }
        return out;
    }

    private void names(String text) {
        c.about("the calls");
        for (String call : Runs.CALLS) {
            c.that(call + " is named", text.contains("`" + call + "`"));
        }
    }
}
