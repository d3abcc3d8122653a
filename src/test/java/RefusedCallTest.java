import java.util.ArrayList;
import java.util.List;

/**
 * The terms: "Bad" comes first, then "Not now", then "Missing", in every call; a call that throws changes nothing. In
 * each state an object that has been refused a call is, then and later, like one that never heard it.
 */
public final class RefusedCallTest {
    private static final String NO_JOB = """
        run(1) -> notnow
        run(100) -> notnow
        stop() -> notnow
        task(true, 0, 0) -> notnow
        task(true, 5, 3) -> notnow
        task(false, 0, 0) -> notnow
        task(false, 2, 3) -> notnow
        """;
    private static final String NO_CHUNK = """
        begin(0, 0, 1, 2) -> notnow
        begin(4, 4, 3, 6) -> notnow
        """;
    private static final String NO_ROOM = """
        chunk(1, 1, 1) -> notnow
        chunk(-1, 6, -1000) -> notnow
        """;
    private static final String JOB = NO_ROOM + NO_CHUNK;
    private static final String NEVER_ENDED = """
        output(0, -1, 0) -> missing
        output(0, -1, 1) -> missing
        output(0, 0, 0) -> missing
        output(2, 5, 1) -> missing
        output(1, -2, 0) -> missing
        find(0) -> missing
        find(1) -> missing
        find(-1) -> missing
        """;
    private static final String ONE_ENDED_OF_ONE_PARTITION = """
        output(0, -2, 0) -> missing
        output(0, 3, 1) -> missing
        output(1, -1, 0) -> missing
        output(2, 0, 1) -> missing
        find(3) -> missing
        find(-1) -> missing
        """;
    // In every state, so also where the call would be not now, or what it asks for missing.
    private static final String ALWAYS_BAD = """
        chunk(1, 0, 1) -> bad
        chunk(1, 7, 1) -> bad
        chunk(1, 1, -1001) -> bad
        chunk(1, 1, 1001) -> bad
        worker(-1, true) -> bad
        worker(-1, false) -> bad
        worker(4, true) -> bad
        worker(4, false) -> bad
        speed(-1, 2) -> bad
        speed(4, 2) -> bad
        speed(0, 0) -> bad
        speed(3, 5) -> bad
        begin(-1, 0, 1, 2) -> bad
        begin(5, 0, 1, 2) -> bad
        begin(0, -1, 1, 2) -> bad
        begin(0, 5, 1, 2) -> bad
        begin(0, 0, 0, 2) -> bad
        begin(0, 0, 4, 2) -> bad
        begin(0, 0, 1, 1) -> bad
        begin(0, 0, 1, 7) -> bad
        run(0) -> bad
        run(101) -> bad
        output(-1, 0, 0) -> bad
        output(3, 0, 0) -> bad
        output(0, 0, -1) -> bad
        output(0, 0, 2) -> bad
        output(0, -1, 2) -> bad
        output(2, -2, -1) -> bad
        task(true, -1, 0) -> bad
        task(true, 6, 0) -> bad
        task(false, -1, 0) -> bad
        task(false, 3, 0) -> bad
        task(true, 5, -1) -> bad
        task(true, 5, 4) -> bad
        task(false, 2, -1) -> bad
        task(false, 2, 4) -> bad
        ofWorker(-1, 0) -> bad
        ofWorker(4, 0) -> bad
        ofWorker(0, -1) -> bad
        ofWorker(0, 4) -> bad
        """;
    // Keys 0, 1, 2 by GROUP: 3, 6, 9 and 1, 4 and 2.
    private static final String CHUNKS = """
        chunk(0x090603, 3, 1)
        chunk(0x020401, 3, 1)
        """;
    private static final String ENDED = CHUNKS + """
        begin(2, 0, 1, 2)
        run(100)
        """;
    private static final String MISSING_TASKS = """
        task(true, 2, 0) -> missing
        task(true, 5, 3) -> missing
        task(false, 2, 0) -> missing
        """;

    private int calls = 0;
    private int wrong = 0;

    public static void main(String[] args) {
        RefusedCallTest test = new RefusedCallTest();
        test.refuse("a new object", "", NO_JOB + NO_CHUNK + NEVER_ENDED);
        test.refuse("chunks", CHUNKS, NO_JOB + NEVER_ENDED);
        test.refuse("six chunks", CHUNKS + CHUNKS + CHUNKS, NO_JOB + NO_ROOM + NEVER_ENDED);
        test.refuse("a job that has begun", CHUNKS + "begin(4, 3, 2, 3)", JOB + NEVER_ENDED + MISSING_TASKS);
        test.refuse("map tasks being done", CHUNKS + """
            filter(2)
            speed(1, 3)
            begin(2, 1, 2, 2)
            run(2)
            """, JOB + NEVER_ENDED + MISSING_TASKS);
        test.refuse("map tasks lost", CHUNKS + """
            begin(2, 1, 2, 2)
            run(8)
            worker(0, false)
            worker(1, false)
            """, JOB + NEVER_ENDED + MISSING_TASKS);
        test.refuse("reduce tasks being done, after another job", ENDED + """
            filter(4)
            begin(2, 3, 2, 2)
            run(9)
            """, JOB + ONE_ENDED_OF_ONE_PARTITION + MISSING_TASKS);
        test.refuse("a job that ended", ENDED, NO_JOB + ONE_ENDED_OF_ONE_PARTITION);
        test.refuse("a job stopped after another", ENDED + """
            begin(3, 3, 3, 2)
            run(4)
            stop()
            """, NO_JOB + ONE_ENDED_OF_ONE_PARTITION);
        test.refuse("a job that failed", CHUNKS + """
            chunk(0, 1, 1)
            begin(2, 4, 3, 2)
            """, "run(100) -> fails", NO_JOB + NEVER_ENDED);
        test.refuse("a job that is stuck", CHUNKS + """
            worker(0, false)
            worker(1, false)
            begin(2, 3, 2, 2)
            """, "run(100) -> notnow", JOB + NEVER_ENDED + MISSING_TASKS);
        System.out.println(test.calls + " refused calls, " + test.wrong + " wrong");
        System.exit(test.wrong == 0 && test.calls > 0 ? 0 : 1);
    }

    private void refuse(String state, String way, String refused) {
        refuse(state, way, "", refused);
    }

    // Two new objects for each refused call: so none has more calls than the document allows it.
    private void refuse(String state, String way, String lastStep, String refused) {
        for (String row : (ALWAYS_BAD + refused).lines().toList()) {
            Script.Answering one = prepared(state, way, lastStep);
            Script.Answering other = prepared(state, way, lastStep);
            String where = state + ", refused: " + row;
            calls++;
            demandAnswer(state, row, one);
            demandAlike(where, one, other);
            goOn(where, one, other);
        }
    }

    private Script.Answering prepared(String state, String way, String lastStep) {
        Script.Answering object = new Script.Answering();
        for (String step : way.lines().toList()) {
            demandNoThrow(state, step, object.answerTo(step));
        }
        for (String step : lastStep.lines().toList()) {
            demandAnswer(state, step, object);
        }
        return object;
    }

    /** What can't be seen at once shows itself in what comes later. */
    private void goOn(String where, Script.Answering one, Script.Answering other) {
        demandAlikeAnswers(where, one, other, """
            run(1)
            run(3)
            """);
        demandAlike(where + ", run", one, other);
        demandAlikeAnswers(where, one, other, """
            worker(1, true)
            run(100)
            chunk(0x0C00, 2, 1)
            begin(2, 3, 3, 2)
            run(3)
            worker(0, false)
            run(100)
            """);
        demandAlike(where + ", much later", one, other);
    }

    private void demandAlikeAnswers(String where, Script.Answering one, Script.Answering other, String steps) {
        for (String step : steps.lines().toList()) {
            String got = one.answerTo(step);
            String due = other.answerTo(step);
            if (!got.equals(due)) {
                tell(where + ", later: " + step + " answered " + got + ", else " + due);
            }
        }
    }

    private void demandNoThrow(String state, String step, String got) {
        if (got.startsWith("throws.")) {
            tell(state + ", on the way: " + step + " answered " + got);
        }
    }

    private void demandAnswer(String state, String row, Script.Answering object) {
        String[] parts = row.split("\\s*->\\s*");
        String got = object.answerTo(parts[0]);
        if (!got.equals(Script.alias(parts[1]))) {
            tell(state + ": " + row + " answered " + got);
        }
    }

    private void demandAlike(String where, Script.Answering one, Script.Answering other) {
        List<String> got = allThatIsSeen(one);
        List<String> due = allThatIsSeen(other);
        for (int i = 0; i < due.size(); i++) {
            if (!got.get(i).equals(due.get(i))) {
                tell(where + ", then " + got.get(i) + ", else " + due.get(i));
                return;
            }
        }
    }

    private static List<String> allThatIsSeen(Script.Answering object) {
        List<String> seen = new ArrayList<>();
        for (int what = 0; what < 7; what++) {
            look(seen, object, "count(" + what + ")");
        }
        for (int what = 0; what < 4; what++) {
            for (int w = 0; w < 4; w++) {
                look(seen, object, "ofWorker(" + w + ", " + what + ")");
            }
            for (int t = 0; t < 6; t++) {
                look(seen, object, "task(true, " + t + ", " + what + ")");
            }
            for (int t = 0; t < 3; t++) {
                look(seen, object, "task(false, " + t + ", " + what + ")");
            }
        }
        for (int p = 0; p < 3; p++) {
            for (int i = -1; i < 4; i++) {
                look(seen, object, "output(" + p + ", " + i + ", 0)");
                look(seen, object, "output(" + p + ", " + i + ", 1)");
            }
        }
        for (int key = -1; key < 4; key++) {
            look(seen, object, "find(" + key + ")");
        }
        return seen;
    }

    private static void look(List<String> seen, Script.Answering object, String call) {
        seen.add(call + " answers " + object.answerTo(call));
    }

    private void tell(String what) {
        wrong++;
        System.out.println(what);
    }
}
