import java.io.IOException;
import java.lang.reflect.InvocationTargetException;
import java.lang.reflect.Method;
import java.lang.reflect.Modifier;
import java.nio.file.Files;
import java.nio.file.Path;
import java.util.ArrayList;
import java.util.HashMap;
import java.util.List;
import java.util.Map;
import java.util.Set;

/**
 * All promises together: long runs of calls with their answers, from src/test/data/runs.txt. The
 * answers were told by a second model of the document, by the same hand but apart from the class: they
 * find slips, not wrong readings.
 */
public final class RecordedRunsTest {
    private static final Map<String, Method> CALLS = new HashMap<>();
    private static final Set<String> READING = Set.of("about", "channel", "cylinder", "edge", "trouble", "frame",
        "byteOf", "word", "page", "sent", "row", "lineAt", "value", "comes");
    /** What is promised of one object; a run that asks for more is made again up to there. */
    private static final int MOST_CALLS = 512;
    /** The calls of the run so far that do not only read. */
    private static final List<String[]> DONE = new ArrayList<>();
    private static EngineControl x;
    private static int calls;

    public static void main(String[] args) throws IOException {
        for (Method method : EngineControl.class.getDeclaredMethods()) {
            if (Modifier.isPublic(method.getModifiers())) {
                CALLS.put(method.getName(), method);
            }
        }
        int run = 0;
        int row = 0;
        int wrong = 0;
        boolean lost = false;
        for (String line : Files.readAllLines(Path.of("src/test/data/runs.txt"))) {
            row++;
            if (line.equals("new")) {
                DONE.clear();
                makeAgain();
                run++;
                lost = false;
            } else if (!lost) {
                int at = line.indexOf(" =");
                String due = line.substring(at + 2).trim();
                String got = answer(line.substring(0, at).split(" "));
                if (!got.equals(due)) {
                    // What comes behind a wrong answer in the same run tells nothing more.
                    lost = true;
                    wrong++;
                    System.out.println("run " + run + ", row " + row + ": " + line.substring(0, at)
                        + " answered " + got + ", due is " + due);
                }
            }
        }
        System.out.println(run + " runs, " + row + " rows, " + wrong + " runs wrong");
        if (wrong > 0 || run == 0) {
            System.exit(1);
        }
    }

    private static String answer(String[] words) {
        int last;
        switch (words[0]) {
            case "abouts": return all(80, 1, "about");
            case "channels": return all(10, 4, "channel");
            case "cylinders": return all(count("cylinder", 8), 8, "cylinder");
            case "troubles": return all(28, 7, "trouble");
            case "frames": return all(8, 1, "frame");
            case "outs": return all(number("43"), 1, "byteOf");
            case "edges":
                last = Math.min(200, number("14"));
                return part(Math.max(0, last - 5), last, "edge");
            case "sents":
                last = Math.min(64, number("63"));
                return part(Math.max(0, last - 4), last, "sent");
            case "rows":
                last = number("78");
                return part(Math.max(0, last - 4), last, "row");
            case "words": return copy("word", words[1], 55);
            case "pages": return copy("page", words[1], 34);
            default: return call(words);
        }
    }

    private static int number(String what) {
        return Integer.parseInt(call("about", what));
    }

    private static int count(String name, int most) {
        int n = 0;
        while (n < most && !call(name, Integer.toString(n), "0").equals("IOOBE")) {
            n++;
        }
        return n;
    }

    private static String all(int n, int whats, String name) {
        StringBuilder text = new StringBuilder();
        for (int k = 0; k < n; k++) {
            for (int what = 0; what < whats; what++) {
                String number = Integer.toString(k);
                text.append(whats == 1 ? call(name, number) : call(name, number, Integer.toString(what))).append(' ');
            }
        }
        return text.toString().trim();
    }

    private static String part(int from, int to, String name) {
        StringBuilder text = new StringBuilder();
        for (int i = from; i < to; i++) {
            for (int what = 0; what < 3; what++) {
                text.append(call(name, Integer.toString(i), Integer.toString(what))).append(' ');
            }
        }
        return text.toString().trim();
    }

    private static String copy(String name, String copy, int n) {
        StringBuilder text = new StringBuilder();
        for (int i = 0; i < n; i++) {
            text.append(call(name, copy, Integer.toString(i))).append(' ');
        }
        return text.toString().trim();
    }

    private static void makeAgain() {
        x = new EngineControl();
        for (String[] words : DONE) {
            invoke(words);
        }
        calls = DONE.size();
    }

    private static String call(String... words) {
        if (calls >= MOST_CALLS) {
            makeAgain();
        }
        calls++;
        if (!READING.contains(words[0])) {
            DONE.add(words);
        }
        return invoke(words);
    }

    private static String invoke(String... words) {
        Method method = CALLS.get(words[0]);
        Class<?>[] types = method.getParameterTypes();
        Object[] values = new Object[types.length];
        for (int i = 0; i < types.length; i++) {
            Object truth = words[i + 1].equals("1");
            values[i] = types[i] == boolean.class ? truth : (Object) Integer.valueOf(words[i + 1]);
        }
        try {
            Object got = method.invoke(x, values);
            return got == null ? "None" : got instanceof Boolean ? ((Boolean) got ? "1" : "0") : got.toString();
        } catch (InvocationTargetException e) {
            return shortName(e.getCause().getClass());
        } catch (IllegalAccessException e) {
            return e.toString();
        }
    }

    private static String shortName(Class<?> thrown) {
        if (thrown == IndexOutOfBoundsException.class) {
            return "IOOBE";
        }
        if (thrown == IllegalArgumentException.class) {
            return "IAE";
        }
        return thrown == IllegalStateException.class ? "ISE" : thrown.getName();
    }
}
