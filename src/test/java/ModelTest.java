import java.lang.reflect.Method;
import java.util.ArrayList;
import java.util.Arrays;
import java.util.List;
import java.util.Map;
import java.util.TreeMap;

/** Runs of drawn calls, each answered by the program and by the model; every answer has to be the same. */
public final class ModelTest {
    private static final int RUNS = 400;
    private static final int LENGTH = 512;

    private final Map<String, Method> real = methods(PieFunnels.class);
    private final Map<String, Method> model = methods(Model.class);
    private final Map<String, Integer> answered = new TreeMap<>();
    private final List<String> told = new ArrayList<>();
    private PieFunnels program;
    private Model twin;
    private boolean differs;

    public static void main(String[] args) throws Exception {
        ModelTest test = new ModelTest();
        int wrong = 0;
        for (int run = 0; run < RUNS; run++) {
            wrong += test.isRunAsDue(run) ? 0 : 1;
        }
        for (String call : Runs.CALLS) {
            if (!test.answered.containsKey(call)) {
                wrong++;
                System.out.println("no run got an answer other than a refusal from " + call);
            }
        }
        System.out.println(wrong == 0 ? RUNS + " runs are as in the model" : wrong + " runs are not as in the model");
        if (wrong != 0) {
            System.exit(1);
        }
    }

    private static Map<String, Method> methods(Class<?> of) {
        Map<String, Method> out = new TreeMap<>();
        for (Method method : of.getDeclaredMethods()) {
            if (Arrays.asList(Runs.CALLS).contains(method.getName())) {
                method.setAccessible(true);
                out.put(method.getName(), method);
            }
        }
        return out;
    }

    private boolean isRunAsDue(int number) throws Exception {
        Runs runs = new Runs(number, number % 5 == 0 ? 25 : 3);
        program = new PieFunnels();
        twin = new Model();
        told.clear();
        differs = false;
        while (!differs && told.size() < LENGTH - 100) {
            int draw = runs.below(48);
            if (draw < 4) {
                readText(runs);
            } else if (draw < 16) {
                tellSigns(runs);
            } else if (draw < 20) {
                showBird(runs);
            } else {
                String call = Runs.CALLS[runs.below(Runs.CALLS.length)];
                ask(call, runs.arguments(call));
            }
        }
        for (int what = -1; what < 19; what++) {
            ask("status", what);
        }
        for (int s = -1; s < 9; s++) {
            ask("holds", s);
            for (int i = -1; i < 7; i++) {
                ask("element", s, i);
            }
        }
        return !differs;
    }

    private void readText(Runs runs) throws Exception {
        String text = runs.text();
        int shelf = runs.below(8);
        ask("row", shelf, runs.below(4), text.length());
        for (int i = 0; i < text.length(); i++) {
            ask("set", shelf, i, (long) text.charAt(i));
        }
        ask("bakery", shelf);
        ask("fault");
    }

    /** A PIE and what a BIRD says of it, so that the questions about told SIGNS have answers. */
    private void tellSigns(Runs runs) throws Exception {
        int bird = runs.below(7);
        int layers = runs.below(4);
        ask("row", 0, 2, layers);
        for (int i = 0; i < layers; i++) {
            ask("set", 0, i, (long) runs.below(10));
        }
        int many = (int) Math.max(0, ask("said", 0, bird, -1));
        ask("row", 1, 3, many);
        for (int i = 0; i < many; i++) {
            ask("set", 1, i, ask("said", 0, bird, i));
        }
        ask("fits", 0, 1, bird, runs.below(3));
        ask("pies", 1, bird, layers, -1);
        ask("pies", 1, bird, layers, 0);
        ask("pies", 1, bird, runs.below(4), 1);
        tellWishes(runs);
    }

    private void showBird(Runs runs) throws Exception {
        int shelf = runs.below(8);
        ask("show", shelf, runs.below(7));
        for (int kind = 0; kind < 7; kind++) {
            ask("says", shelf, kind);
        }
    }

    private void tellWishes(Runs runs) throws Exception {
        int wishes = runs.below(8);
        ask("row", 2, 1, wishes);
        for (int i = 0; i < wishes; i++) {
            ask("set", 2, i, Math.max(0, ask("brings", 0, runs.below(7), 0)));
            ask("tribes", 0, 2, i);
        }
        ask("tribes", 0, 2, -1);
    }

    /** The program's answer; that of the model is looked at as well. */
    private long ask(String call, Object... arguments) throws Exception {
        long got = ((Number) real.get(call).invoke(program, arguments)).longValue();
        long due = ((Number) model.get(call).invoke(twin, arguments)).longValue();
        told.add(call + Arrays.toString(arguments) + " = " + got);
        if (got >= 0) {
            answered.merge(call, 1, Integer::sum);
        }
        if (got != due && !differs) {
            System.out.println(call + Arrays.toString(arguments) + " answered " + got + ", by the model it is " + due);
            System.out.println("  behind " + told.subList(Math.max(0, told.size() - 40), told.size()));
            differs = true;
        }
        return got;
    }
}
