/** The terms: chunk c is kept by the workers c modulo 4 and (c + 1) modulo 4, and can be read while one is up. */
public final class HomesTest {
    // Six chunks of one number each: a map task needs 3 units, the one reduce task 7.
    private static final String SIX_CHUNKS = """
        chunk(3, 1, 1) -> 0
        chunk(3, 1, 1) -> 1
        chunk(3, 1, 1) -> 2
        chunk(3, 1, 1) -> 3
        chunk(3, 1, 1) -> 4
        chunk(3, 1, 1) -> 5
        """;

    public static void main(String[] args) {
        Script script = new Script();
        script.play("worker 0 alone reads 0, 3 and 4", up(true, false, false, false) + stuckWith(10, 2, 0, 0, 2, 2, 0));
        script.play("worker 1 alone reads 0, 1, 4 and 5", up(false, true, false, false)
                + stuckWith(13, 2, 2, 0, 0, 2, 2));
        script.play("worker 2 alone reads 1, 2 and 5", up(false, false, true, false)
                + stuckWith(10, 0, 2, 2, 0, 0, 2));
        script.play("worker 3 alone reads 2 and 3", up(false, false, false, true) + stuckWith(7, 0, 0, 2, 2, 0, 0));
        script.play("0 and 1: all but 2", up(true, true, false, false) + stuckWith(10, 2, 2, 0, 2, 2, 2));
        script.play("0 and 3: all but 1 and 5", up(true, false, false, true) + stuckWith(7, 2, 0, 2, 2, 2, 0));
        script.play("1 and 2: all but 3", up(false, true, true, false) + stuckWith(10, 2, 2, 2, 0, 2, 2));
        script.play("2 and 3: all but 0 and 4", up(false, false, true, true) + stuckWith(7, 0, 2, 2, 2, 0, 2));
        script.play("none reads nothing", up(false, false, false, false) + stuckWith(1, 0, 0, 0, 0, 0, 0));
        // Three map tasks each: nine ticks; then seven for the reduce task.
        script.play("0 and 2 read all", up(true, false, true, false) + """
            run(100) -> 16
            find(0) -> 18
            """);
        script.play("1 and 3 read all", up(false, true, false, true) + """
            run(100) -> 16
            find(0) -> 18
            """);
        script.play("its own chunks first, the least of them first", up(true, false, true, false) + """
            run(1) -> 1
            ofWorker(0, 1) -> 0
            ofWorker(2, 1) -> 1
            run(3) -> 3
            ofWorker(0, 1) -> 3
            ofWorker(2, 1) -> 2
            run(3) -> 3
            ofWorker(0, 1) -> 4
            ofWorker(2, 1) -> 5
            """);
        script.play("then the least of the others", up(false, true, false, true) + """
            run(1) -> 1
            ofWorker(1, 1) -> 0
            ofWorker(3, 1) -> 2
            run(3) -> 3
            ofWorker(1, 1) -> 1
            ofWorker(3, 1) -> 3
            run(3) -> 3
            ofWorker(1, 1) -> 4
            ofWorker(3, 1) -> 5
            count(4) -> 0
            """);
        script.play("a worker that comes up makes its chunks readable again", up(false, false, false, true) + """
            run(100) -> notnow
            worker(0, true)
            run(1) -> 1
            ofWorker(0, 1) -> 0
            ofWorker(3, 1) -> 4
            task(true, 1, 0) -> 0
            task(true, 5, 0) -> 0
            """);
        script.end();
    }

    private static String up(boolean... up) {
        StringBuilder calls = new StringBuilder(SIX_CHUNKS);
        for (int w = 0; w < up.length; w++) {
            calls.append("worker(").append(w).append(", ").append(up[w]).append(")\n");
        }
        return calls.append("begin(2, 0, 1, 2) -> 6\n").toString();
    }

    /** The job is stuck in that tick, with its map tasks in these states. */
    private static String stuckWith(int tick, int... states) {
        StringBuilder calls = new StringBuilder("run(100) -> notnow\ncount(2) -> " + tick + "\n");
        for (int c = 0; c < states.length; c++) {
            calls.append("task(true, ").append(c).append(", 0) -> ").append(states[c]).append("\n");
        }
        return calls.toString();
    }
}
