import java.util.NoSuchElementException;
import java.util.regex.Matcher;
import java.util.regex.Pattern;

/**
 * Plays runs of calls, a call a line: {@code run(100) -> 7}. A line {@code new} makes a new object, and so does the
 * beginning; {@code -> throws.Name} asks for an exception; without an arrow the call must merely not throw.
 * Longs may be written 0x..; what stands behind {@code //} is a remark.
 */
final class Script {
    private static final Pattern LINE = Pattern.compile("(\\w+\\(.*?\\))(?:\\s*->\\s*(\\S+))?");
    private static final Pattern CALL = Pattern.compile("(\\w+)\\((.*)\\)");

    private int wrong = 0;
    private int calls = 0;

    void play(String title, String text) {
        Answering object = new Answering();
        int number = 0;
        for (String raw : text.split("\n")) {
            number++;
            String line = raw.replaceAll("//.*", "").trim();
            if (line.isEmpty()) {
                continue;
            }
            if (line.equals("new")) {
                object = new Answering();
                continue;
            }
            playLine(title + ", line " + number, line, object);
        }
    }

    private void playLine(String where, String line, Answering object) {
        Matcher parts = LINE.matcher(line);
        if (!parts.matches()) {
            throw new IllegalArgumentException("no call: " + line);
        }
        String got = object.answerTo(parts.group(1));
        String due = alias(parts.group(2));
        calls++;
        boolean right = due == null ? !got.startsWith("throws.") : got.equals(due);
        if (!right) {
            wrong++;
            System.out.println(where + ": " + line + " answered " + got);
        }
    }

    /** The short words for exceptions, as answers are written; all else stays. */
    static String alias(String due) {
        if (due == null) {
            return null;
        }
        switch (due) {
            case "bad":
                return "throws.IllegalArgumentException";
            case "notnow":
                return "throws.IllegalStateException";
            case "missing":
                return "throws.NoSuchElementException";
            case "fails":
                return "throws.ArithmeticException";
            default:
                return due;
        }
    }

    void end() {
        System.out.println(calls + " calls, " + wrong + " wrong");
        if (wrong != 0 || calls == 0) {
            System.exit(1);
        }
    }

    /** A ReduceCluster whose calls and answers are texts. */
    static final class Answering {
        private final ReduceCluster cluster = new ReduceCluster();

        /** The answer to a call that is written out: {@code run(100)}. */
        String answerTo(String call) {
            Matcher parts = CALL.matcher(call);
            if (!parts.matches()) {
                throw new UnsupportedOperationException("no call: " + call);
            }
            return answer(parts.group(1), parts.group(2).isEmpty() ? new String[0] : parts.group(2).split("\\s*,\\s*"));
        }

        String answer(String name, String... a) {
            try {
                return dispatch(name, a);
            } catch (IllegalArgumentException | IllegalStateException | NoSuchElementException
                    | ArithmeticException e) {
                return "throws." + e.getClass().getSimpleName();
            }
        }

        private String dispatch(String name, String[] a) {
            switch (name + a.length) {
                case "chunk3":
                    return "" + cluster.chunk(Long.decode(a[0]), number(a[1]), number(a[2]));
                case "worker2":
                    cluster.worker(number(a[0]), Boolean.parseBoolean(a[1]));
                    return "void";
                case "speed2":
                    cluster.speed(number(a[0]), number(a[1]));
                    return "void";
                case "filter1":
                    cluster.filter(number(a[0]));
                    return "void";
                case "begin4":
                    return "" + cluster.begin(number(a[0]), number(a[1]), number(a[2]), number(a[3]));
                case "run1":
                    return "" + cluster.run(number(a[0]));
                case "stop0":
                    cluster.stop();
                    return "void";
                case "output3":
                    return "" + cluster.output(number(a[0]), number(a[1]), number(a[2]));
                case "find1":
                    return "" + cluster.find(number(a[0]));
                case "task3":
                    return "" + cluster.task(Boolean.parseBoolean(a[0]), number(a[1]), number(a[2]));
                case "ofWorker2":
                    return "" + cluster.ofWorker(number(a[0]), number(a[1]));
                case "count1":
                    return "" + cluster.count(number(a[0]));
                default:
                    throw new UnsupportedOperationException("no such call: " + name);
            }
        }

        private static int number(String text) {
            return Integer.decode(text);
        }
    }
}
