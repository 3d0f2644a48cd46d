import java.io.IOException;
import java.lang.reflect.Constructor;
import java.lang.reflect.Field;
import java.lang.reflect.Method;
import java.lang.reflect.Modifier;
import java.nio.file.Files;
import java.nio.file.Path;
import java.util.ArrayList;
import java.util.Arrays;
import java.util.List;
import java.util.Set;
import java.util.TreeSet;
import java.util.regex.Matcher;
import java.util.regex.Pattern;

/** The rules of LANGUAGE.md that can be told from the text and the face of the program. */
public final class LanguageTest {
    private static final String[] FORBIDDEN = {"import", "package", "throw", "throws", "try", "catch", "finally",
        "synchronized", "assert", "volatile", "transient", "native", "strictfp", "protected", "goto", "double",
        "float", "hashCode", "toString", "Exception", "Object", "Thread", "Random", "System.currentTimeMillis",
        "System.nanoTime", "System.out", "Class", "var"};

    private final Checks c = new Checks();
    private final String code;

    private LanguageTest(String code) {
        this.code = code;
    }

    public static void main(String[] args) throws Exception {
        LanguageTest test = new LanguageTest(plain(Files.readString(Path.of("src/main/java/PieFunnels.java"))));
        test.words();
        test.library();
        test.shelvesAreLookedAt();
        test.face();
        test.names();
        test.sizes();
        test.staticFields();
        test.madeOnlyWithTheObject();
        test.c.end();
    }

    /** The text without comments and without what stands between quotes. */
    private static String plain(String text) {
        return text.replaceAll("(?s)/\\*.*?\\*/", "").replaceAll("//[^\n]*", "").replaceAll("\"[^\"\n]*\"", "\"\"")
            .replaceAll("'[^'\n]'", "' '");
    }

    private void words() {
        c.about("words");
        for (String word : FORBIDDEN) {
            c.that("no " + word, !Pattern.compile("\\b" + Pattern.quote(word) + "\\b").matcher(code).find());
        }
        c.that("no lambda, no arrow", !code.contains("->"));
        c.that("no method reference", !code.contains("::"));
        c.that("nothing whose name ends in Exact", !code.contains("Exact"));
        c.that("no text joined by +", !code.contains("\" +") && !code.contains("+ \""));
        Matcher library = Pattern.compile("\\b(System|Math|Integer|Long|Arrays)\\.(\\w+)").matcher(code);
        // the functions alone: rule 4 leaves no field of the library's classes
        List<String> known = Arrays.asList("System.arraycopy", "Math.max", "Math.min");
        while (library.find()) {
            c.that(library.group() + " is one of the library that the rules leave", known.contains(library.group()));
        }
    }

    private void library() {
        c.about("rule 4");
        Set<String> own = new TreeSet<>(Arrays.asList("length", "charAt", "isEmpty", "arraycopy", "max", "min"));
        Set<String> fields = new TreeSet<>(Arrays.asList("length"));
        for (Class<?> one : classes()) {
            for (Method method : one.getDeclaredMethods()) {
                own.add(method.getName());
            }
            for (Field field : one.getDeclaredFields()) {
                fields.add(field.getName());
            }
        }
        Matcher used = Pattern.compile("\\.(\\w+)(\\()?").matcher(code);
        while (used.find()) {
            Set<String> left = used.group(2) == null ? fields : own;
            c.that(used.group() + " is the program's own or one that the rules leave", left.contains(used.group(1)));
        }
        Matcher types = Pattern.compile("\\b[A-Z][a-z]\\w*").matcher(code);
        Set<String> known = new TreeSet<>(Arrays.asList("String", "System", "Math"));
        for (Class<?> one : classes()) {
            known.add(one.getSimpleName());
        }
        while (types.find()) {
            c.that(types.group() + " is the program's own or one that the rules leave", known.contains(types.group()));
        }
    }

    private static List<Class<?>> classes() {
        List<Class<?>> all = new ArrayList<>(Arrays.asList(PieFunnels.class.getDeclaredClasses()));
        all.add(PieFunnels.class);
        return all;
    }

    /** A SHELF that isn't there at all, which no call brings about, is looked at before it is used. */
    private void shelvesAreLookedAt() throws ReflectiveOperationException {
        c.about("rule 7");
        Field field = PieFunnels.class.getDeclaredField("shelves");
        field.setAccessible(true);
        for (String call : Runs.CALLS) {
            PieFunnels x = new PieFunnels();
            x.bird(0, 0, 0);
            Checks.fill(x, 0, 1, 0);
            x.show(1, 0);
            x.image();
            Object[] all = (Object[]) field.get(x);
            for (int s = 0; s < all.length; s++) {
                all[s] = null;
            }
            for (long first = 0; first < 2; first++) {
                long[] arguments = new long[Calls.arguments(call)];
                Arrays.fill(arguments, first);
                c.that(call + " answers without SHELVES", answers(x, call, arguments));
            }
        }
    }

    private static boolean answers(PieFunnels x, String call, long... arguments) {
        try {
            Calls.on(x, call, arguments);
            return true;
        } catch (IllegalStateException thrown) {
            return false;
        }
    }

    private void face() {
        c.about("rule 1");
        Set<String> open = new TreeSet<>();
        for (Method method : PieFunnels.class.getDeclaredMethods()) {
            if (!Modifier.isPrivate(method.getModifiers())) {
                open.add(method.getName());
                c.that(method + " is public and no more", method.getModifiers() == Modifier.PUBLIC);
                c.that(method + " answers as the face says",
                    method.getReturnType() == (method.getName().equals("element") ? long.class : int.class));
            }
        }
        c.that("the methods are those of the face: " + open, open.equals(new TreeSet<>(Arrays.asList(Runs.CALLS))));
        for (Field field : PieFunnels.class.getDeclaredFields()) {
            c.that(field + " is private", field.getName().equals("NONE") || Modifier.isPrivate(field.getModifiers()));
        }
        Constructor<?>[] made = PieFunnels.class.getDeclaredConstructors();
        c.that("one constructor", made.length == 1 && made[0].getParameterCount() == 0
            && Modifier.isPublic(made[0].getModifiers()));
        c.that("the class is public and final", PieFunnels.class.getModifiers() == (Modifier.PUBLIC | Modifier.FINAL));
        for (Class<?> inside : PieFunnels.class.getDeclaredClasses()) {
            c.that(inside + " is static and not open", Modifier.isStatic(inside.getModifiers())
                && !Modifier.isPublic(inside.getModifiers()) && !Modifier.isProtected(inside.getModifiers()));
        }
    }

    private void names() {
        c.about("rule 1, names");
        List<Class<?>> all = classes();
        for (Class<?> one : all) {
            for (Method method : one.getDeclaredMethods()) {
                c.that(method + " bears no public one's name", !Modifier.isPrivate(method.getModifiers())
                    || !Arrays.asList(Runs.CALLS).contains(method.getName()));
                c.that(method + " takes seven parameters at most", method.getParameterCount() <= 7);
            }
            int fields = 0;
            for (Field field : one.getDeclaredFields()) {
                fields += Modifier.isStatic(field.getModifiers()) ? 0 : 1;
            }
            c.that(one + " has at most twenty fields", fields <= 20);
        }
        c.that("at most twelve classes", all.size() <= 12);
    }

    private void sizes() {
        c.about("rule 11");
        String[] lines = code.split("\n");
        int start = -1;
        String indent = "";
        for (int i = 0; i < lines.length; i++) {
            Matcher head = Pattern.compile("^( {4}| {8})(public|private)[^=;]*\\([^;]*\\) \\{$").matcher(lines[i]);
            if (head.find()) {
                start = i;
                indent = head.group(1);
            } else if (start >= 0 && lines[i].equals(indent + "}")) {
                c.that("at most sixty lines from " + lines[start].trim(), i - start + 1 <= 60);
                start = -1;
            }
        }
    }

    private void staticFields() {
        c.about("rule 5");
        Matcher field = Pattern.compile("\\bstatic\\b[^({]*[=;]").matcher(code);
        while (field.find()) {
            c.that(field.group() + " is final", field.group().contains("final"));
        }
        c.that("no static initialiser", !Pattern.compile("\\bstatic\\s*\\{").matcher(code).find());
    }

    private void madeOnlyWithTheObject() {
        c.about("room");
        for (String line : code.split("\n")) {
            if (line.contains("new ")) {
                c.that("made with the object alone: " + line.trim(),
                    line.contains("private final ") || line.trim().equals("shelves[s] = new Shelf();"));
            }
        }
    }
}
