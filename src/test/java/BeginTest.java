/** Promise 6: begin, and the runs and units of a job. */
public final class BeginTest {
    public static void main(String[] args) {
        Script script = new Script();
        script.play("ranges", """
            chunk(1, 1, 1) -> 0
            begin(-1, 0, 1, 2) -> bad
            begin(5, 0, 1, 2) -> bad
            begin(0, -1, 1, 2) -> bad
            begin(0, 5, 1, 2) -> bad
            begin(0, 0, 0, 2) -> bad
            begin(0, 0, 4, 2) -> bad
            begin(0, 0, 1, 1) -> bad
            begin(0, 0, 1, 7) -> bad
            begin(2147483647, 0, 1, 2) -> bad
            begin(0, -2147483648, 1, 2) -> bad
            begin(0, 0, -2147483648, 2) -> bad
            begin(0, 0, 1, 2147483647) -> bad
            count(1) -> 0
            begin(4, 4, 3, 6) -> 1
            count(1) -> 1
            stop()
            begin(0, 0, 1, 2) -> 1
            """);
        script.play("not without chunks, bad comes first", """
            begin(0, 0, 1, 2) -> notnow
            begin(5, 0, 1, 2) -> bad
            begin(0, 5, 1, 2) -> bad
            begin(0, 0, 4, 2) -> bad
            begin(0, 0, 1, 1) -> bad
            count(1) -> 0
            """);
        script.play("not while one is under way, which stays as it is", """
            chunk(0x0503, 2, 1) -> 0
            begin(1, 0, 1, 2) -> 1
            run(1) -> 1
            begin(4, 1, 2, 6) -> notnow
            begin(5, 1, 2, 6) -> bad
            count(6) -> 2
            ofWorker(0, 2) -> 4
            task(false, 1, 0) -> missing
            run(100)
            output(0, -1, 0) -> 2
            find(3) -> 1
            find(5) -> 1
            """);
        script.play("as many map tasks as chunks", """
            chunk(1, 1, 1)
            chunk(1, 1, 1)
            begin(0, 0, 1, 2) -> 2
            task(true, 1, 0) -> 0
            task(true, 2, 0) -> missing
            stop()
            chunk(1, 1, 1)
            begin(0, 0, 3, 2) -> 3
            task(true, 2, 0) -> 0
            task(true, 3, 0) -> missing
            task(false, 2, 0) -> 0
            """);
        script.play("a buffer that is full makes a run, and so does the rest", """
            chunk(0, 6, 1) -> 0
            chunk(0, 5, 1) -> 1
            begin(0, 0, 1, 2) -> 2
            task(true, 0, 2) -> 3
            task(true, 0, 1) -> 15
            task(true, 1, 2) -> 3
            task(true, 1, 1) -> 13
            stop()
            begin(0, 0, 1, 3)
            task(true, 0, 2) -> 2
            task(true, 1, 2) -> 2
            stop()
            begin(0, 0, 1, 4)
            task(true, 0, 2) -> 2
            task(true, 1, 2) -> 2
            stop()
            begin(0, 0, 1, 5)
            task(true, 0, 2) -> 2
            task(true, 1, 2) -> 1
            stop()
            begin(0, 0, 1, 6)
            task(true, 0, 2) -> 1
            task(true, 0, 1) -> 13
            task(true, 1, 2) -> 1
            """);
        script.play("buffers go over numbers and partitions; no pairs, no run", """
            chunk(0x0B0B, 2, 9) -> 0             // 99, 99: four pairs by DIGITS
            chunk(0x0301, 2, 1) -> 1             // odd: none by HALVES
            begin(1, 0, 3, 3) -> 2
            task(true, 0, 2) -> 2
            task(true, 0, 1) -> 6
            stop()
            begin(3, 0, 1, 2) -> 2
            task(true, 1, 2) -> 0
            task(true, 1, 1) -> 4
            stop()
            begin(2, 0, 3, 2) -> 2
            task(true, 1, 2) -> 1                // keys 1 and 0 in one run
            """);
        script.play("a job begins anew: nothing is done, no worker has a task", """
            chunk(3, 1, 1) -> 0
            begin(2, 0, 1, 2) -> 1
            run(3) -> 3
            stop()
            begin(2, 0, 1, 2) -> 1
            task(true, 0, 0) -> 0
            task(true, 0, 3) -> -1
            task(false, 0, 0) -> 0
            ofWorker(1, 1) -> -1
            run(100) -> 4
            begin(2, 0, 1, 2) -> 1
            task(true, 0, 0) -> 0
            task(false, 0, 0) -> 0
            task(false, 0, 3) -> -1
            run(100) -> 4
            count(3) -> 2
            """);
        script.end();
    }
}
