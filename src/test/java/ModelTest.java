import java.util.ArrayList;
import java.util.List;
import java.util.Random;

/** Long runs of calls, always the same ones, on the program and on the model: all answers are alike. */
public final class ModelTest {
    private static final int RUNS = 1500;
    private static final int STEPS = 512;

    private final Random random;
    private final Script.Answering program = new Script.Answering();
    private final Model model = new Model();
    private final List<String> story = new ArrayList<>();
    private int calls = 0;

    private ModelTest(int seed) {
        random = new Random(seed);
    }

    public static void main(String[] args) {
        int wrong = 0;
        for (int seed = 1; seed <= RUNS && wrong < 5; seed++) {
            ModelTest test = new ModelTest(seed);
            if (!test.passes()) {
                wrong++;
                System.out.println("run " + seed + ": " + String.join("; ", test.story));
            }
        }
        System.out.println(RUNS + " runs, " + wrong + " wrong");
        System.exit(wrong == 0 ? 0 : 1);
    }

    private boolean passes() {
        int first = random.nextInt(7);
        for (int c = 0; c < first; c++) {
            if (!chunk()) {
                return false;
            }
        }
        while (calls < STEPS) {
            if (!step() || random.nextInt(4) == 0 && !look()) {
                return false;
            }
        }
        return true;
    }

    private boolean step() {
        switch (random.nextInt(16)) {
            case 0:
                return chunk();
            case 1:
            case 2:
            case 3:
                return alike("worker", pick(-1, 0, 4), random.nextInt(5) > 1);
            case 4:
                return alike("speed", pick(-1, 0, 4), pick(0, 1, 5));
            case 5:
                return alike("filter", random.nextInt(3) == 0 ? Integer.MIN_VALUE : random.nextInt(40) - 20);
            case 6:
            case 7:
            case 8:
            case 9:
                return alike("begin", pick(-1, 0, 5), pick(-1, 0, 5), pick(0, 1, 4), pick(1, 2, 7));
            case 10:
                return random.nextInt(6) > 0 || alike("stop");
            case 11:
            case 12:
                return alike("run", random.nextInt(30) == 0 ? 101 * random.nextInt(2) : 100);
            default:
                return alike("run", 1 + random.nextInt(6));
        }
    }

    /** Mostly low to high - 1, now and then one beside. */
    private int pick(int below, int low, int above) {
        if (random.nextInt(60) == 0) {
            return random.nextBoolean() ? below : above;
        }
        return low + random.nextInt(above - low);
    }

    private boolean chunk() {
        long bytes = random.nextLong();
        if (random.nextBoolean()) {
            bytes &= 0x0707070707070707L;
        }
        int factor = random.nextBoolean() ? 1 : random.nextInt(2004) - 1002;
        return alike("chunk", bytes, pick(0, 1, 7), factor);
    }

    /** Looks at some of what can be seen. */
    private boolean look() {
        int most = 1 + random.nextInt(8);
        for (int i = 0; i < most; i++) {
            if (!lookOnce()) {
                return false;
            }
        }
        return true;
    }

    private boolean lookOnce() {
        switch (random.nextInt(6)) {
            case 0:
                return alike("task", true, pick(-1, 0, 6), pick(-1, 0, 4));
            case 1:
                return alike("task", false, pick(-1, 0, 3), pick(-1, 0, 4));
            case 2:
                return alike("ofWorker", pick(-1, 0, 4), pick(-1, 0, 4));
            case 3:
                return alike("count", random.nextInt(9) - 1);
            case 4:
                return alike("find", random.nextInt(14) - 3);
            default:
                return alike("output", pick(-1, 0, 3), random.nextInt(9) - 2, pick(-1, 0, 2));
        }
    }

    private boolean alike(String name, Object... arguments) {
        String[] texts = new String[arguments.length];
        for (int i = 0; i < texts.length; i++) {
            texts[i] = String.valueOf(arguments[i]);
        }
        calls++;
        String got = program.answer(name, texts);
        String due = model.answer(name, texts);
        story.add(name + "(" + String.join(", ", texts) + ") answered " + got);
        if (got.equals(due)) {
            return true;
        }
        story.add("due is " + due);
        return false;
    }
}
