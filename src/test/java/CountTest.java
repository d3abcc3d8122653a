/** Promise 13: count. */
public final class CountTest {
    public static void main(String[] args) {
        Script script = new Script();
        script.play("else -1", """
            count(-1) -> -1
            count(7) -> -1
            count(8) -> -1
            count(2147483647) -> -1
            count(-2147483648) -> -1
            """);
        script.play("chunks, job, ticks, jobs ended", """
            chunk(3, 1, 1) -> 0
            count(0) -> 1
            chunk(3, 1, 1) -> 1
            count(0) -> 2
            count(1) -> 0
            begin(2, 0, 1, 2) -> 2
            count(1) -> 1
            count(2) -> 0
            run(2) -> 2
            count(2) -> 2
            stop()
            count(1) -> 0
            count(2) -> 2
            count(3) -> 0
            begin(2, 0, 1, 2) -> 2
            run(100)
            count(1) -> 0
            count(3) -> 1
            begin(2, 0, 1, 2) -> 2
            run(100)
            count(3) -> 2
            """);
        script.play("given out a second time, map tasks and reduce tasks, again and again", """
            chunk(3, 1, 1) -> 0
            begin(2, 0, 1, 2) -> 1
            run(1) -> 1
            count(4) -> 1
            worker(1, false)
            run(1) -> 1
            count(4) -> 2                        // worker 2 now
            worker(0, false)
            worker(2, false)
            worker(1, true)
            run(1) -> 1
            count(4) -> 3                        // 1 anew, 3 a second time
            run(2) -> 2
            task(true, 0, 3) -> 1
            ofWorker(3, 1) -> 8
            count(4) -> 3
            run(1) -> 1
            count(4) -> 4                        // 1 the reduce task of 3
            count(3) -> 1
            """);
        script.play("done map tasks that came to be not done", """
            chunk(3, 1, 1) -> 0
            chunk(3, 1, 1) -> 1
            begin(2, 0, 1, 2) -> 2
            run(3) -> 3
            count(5) -> 0
            worker(1, false)
            count(5) -> 1
            worker(0, false)
            count(5) -> 2
            worker(0, true)
            worker(1, true)
            count(5) -> 2
            run(100)
            begin(2, 0, 1, 2) -> 2
            run(3) -> 3
            worker(0, false)
            count(5) -> 3
            """);
        script.play("pairs by the mapper of the job under way or the latest", """
            chunk(0x010005, 3, 100) -> 0         // 500, 0, 100
            count(6) -> 0
            begin(0, 0, 1, 2) -> 1
            count(6) -> 3
            stop()
            count(6) -> 3
            begin(1, 0, 1, 2) -> 1
            count(6) -> 7
            run(100)
            count(6) -> 7
            begin(2, 4, 1, 2) -> 1
            count(6) -> 3
            run(100)
            begin(3, 0, 1, 2) -> 1
            count(6) -> 3
            stop()
            begin(4, 0, 1, 2) -> 1
            count(6) -> 5
            begin(0, 0, 1, 2) -> notnow
            count(6) -> 5
            stop()
            chunk(0x0200, 2, 1) -> 1             // the chunks as they are now
            count(6) -> 8
            begin(0, 0, 1, 1) -> bad
            count(6) -> 8
            """);
        script.end();
    }
}
