/** Promise 11: task. */
public final class TaskTest {
    public static void main(String[] args) {
        Script script = new Script();
        script.play("bad, then not now, then missing", """
            task(true, -1, 0) -> bad
            task(true, 6, 0) -> bad
            task(false, -1, 0) -> bad
            task(false, 3, 0) -> bad
            task(true, 0, -1) -> bad
            task(true, 0, 4) -> bad
            task(false, 0, 4) -> bad
            task(true, 2147483647, 0) -> bad
            task(false, -2147483648, 0) -> bad
            task(true, 0, 2147483647) -> bad
            task(true, 5, 3) -> notnow
            task(false, 2, 3) -> notnow
            chunk(3, 1, 1) -> 0
            task(true, 0, 0) -> notnow
            begin(2, 0, 2, 2) -> 1
            task(true, 0, 0) -> 0
            task(true, 1, 0) -> missing
            task(true, 5, 3) -> missing
            task(true, 6, 3) -> bad
            task(true, 5, 4) -> bad
            task(false, 1, 0) -> 0
            task(false, 2, 0) -> missing
            task(false, 2, 4) -> bad
            run(100)
            task(true, 0, 0) -> notnow
            task(true, 5, 0) -> notnow
            """);
        script.play("waiting, being done, done; needs; runs; who", """
            chunk(0x0103, 2, 1) -> 0             // 4 units and 1 run; keys 0 and 1
            begin(2, 0, 1, 2) -> 1
            task(true, 0, 0) -> 0
            task(true, 0, 1) -> 5
            task(true, 0, 2) -> 1
            task(true, 0, 3) -> -1
            task(false, 0, 0) -> 0
            task(false, 0, 1) -> 0
            task(false, 0, 2) -> 0
            task(false, 0, 3) -> -1
            run(4) -> 4
            task(true, 0, 0) -> 1
            task(true, 0, 1) -> 5
            task(true, 0, 2) -> 1
            task(true, 0, 3) -> 0
            task(false, 0, 1) -> 0
            run(1) -> 1
            task(true, 0, 0) -> 2
            task(true, 0, 1) -> 5
            task(true, 0, 2) -> 1
            task(true, 0, 3) -> 0
            task(false, 0, 0) -> 1
            task(false, 0, 1) -> 3
            task(false, 0, 2) -> 0
            task(false, 0, 3) -> 1
            run(100) -> 2
            """);
        script.play("done by the one that was first, also if another was least", """
            chunk(0x0103, 2, 1) -> 0
            speed(1, 2)
            begin(2, 0, 2, 2) -> 1
            run(2) -> 2
            task(true, 0, 3) -> 0
            run(1) -> 1
            task(true, 0, 0) -> 2
            task(true, 0, 3) -> 1
            ofWorker(0, 1) -> -1
            task(false, 0, 3) -> 2
            task(false, 1, 3) -> 3
            task(false, 0, 1) -> 2
            task(false, 1, 1) -> 2
            """);
        script.play("units of a reduce task without pairs", """
            chunk(3, 1, 1) -> 0
            begin(2, 0, 3, 2) -> 1
            run(3) -> 3
            task(false, 0, 1) -> 2
            task(false, 1, 1) -> 1
            task(false, 2, 1) -> 1
            """);
        script.end();
    }
}
