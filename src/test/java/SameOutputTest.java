import java.util.ArrayList;
import java.util.List;
import java.util.Random;

/** An output that is the same whatever happens: workers that come and go and change their speed change none of it. */
public final class SameOutputTest {
    private static final int RUNS = 400;
    private static final int MOST_STEPS = 100;

    private final Random random;
    private final List<String> job = new ArrayList<>();

    private SameOutputTest(int seed) {
        random = new Random(seed);
        int chunks = 1 + random.nextInt(6);
        for (int c = 0; c < chunks; c++) {
            long bytes = random.nextBoolean() ? random.nextLong() : random.nextLong() & 0x0F0F0F0F0F0FL;
            job.add("chunk(" + bytes + ", " + (1 + random.nextInt(6)) + ", " + (random.nextInt(21) - 10) + ")");
        }
        if (random.nextInt(3) == 0) {
            job.add("filter(" + (random.nextInt(21) - 10) + ")");
        }
        job.add("begin(" + random.nextInt(5) + ", " + random.nextInt(4) + ", " + (1 + random.nextInt(3)) + ", "
                + (2 + random.nextInt(5)) + ")");
    }

    public static void main(String[] args) {
        int wrong = 0;
        int lost = 0;
        int second = 0;
        for (int seed = 1; seed <= RUNS; seed++) {
            SameOutputTest test = new SameOutputTest(seed);
            Script.Answering calm = test.calm();
            Script.Answering disturbed = test.disturbed();
            lost += Integer.parseInt(disturbed.answerTo("count(5)"));
            second += Integer.parseInt(disturbed.answerTo("count(4)"));
            if (!outputs(calm).equals(outputs(disturbed))) {
                wrong++;
                System.out.println("run " + seed + ": " + test.job + " gives " + outputs(calm) + " and, disturbed, "
                        + outputs(disturbed));
            }
        }
        System.out.println(RUNS + " jobs, " + lost + " map tasks lost, " + second + " tasks given out a second time, "
                + wrong + " wrong");
        System.exit(wrong == 0 && lost > 0 && second > 0 ? 0 : 1);
    }

    private Script.Answering begun() {
        Script.Answering object = new Script.Answering();
        job.forEach(object::answerTo);
        return object;
    }

    private Script.Answering calm() {
        Script.Answering object = begun();
        finish(object);
        return object;
    }

    private Script.Answering disturbed() {
        Script.Answering object = begun();
        for (int step = 0; step < MOST_STEPS; step++) {
            object.answerTo(disturbance());
        }
        for (int w = 0; w < 4; w++) {
            object.answerTo("worker(" + w + ", true)");
        }
        finish(object);
        return object;
    }

    private String disturbance() {
        switch (random.nextInt(8)) {
            case 0:
            case 1:
                return "worker(" + random.nextInt(4) + ", false)";
            case 2:
            case 3:
                return "worker(" + random.nextInt(4) + ", true)";
            case 4:
                return "speed(" + random.nextInt(4) + ", " + (1 + random.nextInt(4)) + ")";
            case 5:
                return "filter(" + random.nextInt(20) + ")";
            default:
                return "run(" + (1 + random.nextInt(5)) + ")";
        }
    }

    // Six map tasks of at most 30 units and 217 units for the only partition: fewer than 400 ticks.
    private static void finish(Script.Answering object) {
        for (int i = 0; i < 4; i++) {
            object.answerTo("run(100)");
        }
        if (!object.answerTo("count(3)").equals("1")) {
            throw new IllegalStateException("the job has not ended");
        }
    }

    private static List<String> outputs(Script.Answering object) {
        List<String> all = new ArrayList<>();
        for (int p = 0; p < 3; p++) {
            for (int i = -1; i < 37; i++) {
                String one = object.answerTo("output(" + p + ", " + i + ", 0)")
                        + " " + object.answerTo("output(" + p + ", " + i + ", 1)");
                if (!one.contains("throws.") || i < 0) {
                    all.add(one);
                }
            }
        }
        return all;
    }
}
