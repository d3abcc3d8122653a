/** Promise 7: run, and the ticks of the terms. */
public final class RunTest {
    public static void main(String[] args) {
        Script script = new Script();
        script.play("1 to 100 ticks", """
            run(0) -> bad
            run(101) -> bad
            run(-1) -> bad
            run(2147483647) -> bad
            run(-2147483648) -> bad
            run(1) -> notnow
            run(100) -> notnow
            chunk(0, 6, 1) -> 0
            begin(0, 0, 1, 2) -> 1
            run(0) -> bad
            run(101) -> bad
            count(2) -> 0
            run(1) -> 1
            count(2) -> 1
            run(5) -> 5
            count(2) -> 6
            """);
        script.play("until the job has ended", """
            chunk(3, 1, 1) -> 0                  // 3 units, then 2
            begin(2, 0, 1, 2) -> 1
            run(100) -> 4
            count(1) -> 0
            count(2) -> 4
            count(3) -> 1
            run(1) -> notnow
            count(2) -> 4
            begin(2, 0, 1, 2) -> 1
            run(4) -> 4
            count(1) -> 0
            begin(2, 0, 1, 2) -> 1
            run(3) -> 3
            count(1) -> 1
            run(2) -> 1
            count(1) -> 0
            """);
        script.play("workers in order, a second time, a task got in the same tick", """
            chunk(3, 1, 1) -> 0
            begin(2, 0, 1, 2) -> 1
            run(1) -> 1
            ofWorker(0, 1) -> 0
            ofWorker(0, 2) -> 2
            ofWorker(1, 1) -> 0
            ofWorker(1, 2) -> 2
            ofWorker(2, 1) -> -1                 // two do it already
            ofWorker(3, 1) -> -1
            count(4) -> 1
            run(2) -> 2
            task(true, 0, 0) -> 2
            task(true, 0, 3) -> 0
            ofWorker(0, 1) -> -1
            ofWorker(1, 1) -> 8
            ofWorker(1, 2) -> 1
            ofWorker(1, 3) -> 3
            ofWorker(2, 1) -> 8
            ofWorker(2, 2) -> 1
            ofWorker(3, 1) -> -1
            count(4) -> 2
            run(1) -> 1
            ofWorker(1, 3) -> 4
            ofWorker(2, 1) -> -1
            ofWorker(2, 3) -> 1
            """);
        script.play("homes come before lower numbers", """
            chunk(3, 1, 1) -> 0
            chunk(3, 1, 1) -> 1
            chunk(3, 1, 1) -> 2
            worker(0, false)
            worker(2, false)
            begin(2, 0, 1, 2) -> 3
            run(1) -> 1
            ofWorker(1, 1) -> 0
            ofWorker(3, 1) -> 2
            new
            chunk(3, 1, 1) -> 0
            chunk(3, 1, 1) -> 1
            worker(0, false)
            worker(2, false)
            begin(2, 0, 1, 2) -> 2
            run(1) -> 1
            ofWorker(1, 1) -> 0
            ofWorker(3, 1) -> 1                  // no home, so the least
            """);
        script.play("chunk 3 has its homes at 3 and 0, chunk 4 at 0 and 1", """
            chunk(3, 1, 1)
            chunk(3, 1, 1)
            chunk(3, 1, 1)
            chunk(3, 1, 1)
            chunk(3, 1, 1)
            chunk(3, 1, 1)
            worker(1, false)
            speed(0, 3)
            begin(2, 0, 1, 2) -> 6
            run(1) -> 1
            task(true, 0, 3) -> 0
            ofWorker(2, 1) -> 1
            ofWorker(3, 1) -> 2
            run(1) -> 1
            task(true, 3, 3) -> 0
            run(1) -> 1
            task(true, 4, 3) -> 0
            task(true, 1, 3) -> 2
            task(true, 2, 3) -> 3
            run(1) -> 1
            task(true, 5, 3) -> 0                // no home of 5
            """);
        script.play("only chunks that can be read", """
            chunk(3, 1, 1) -> 0
            chunk(3, 1, 1) -> 1
            worker(0, false)
            worker(1, false)
            begin(2, 0, 1, 2) -> 2
            run(1) -> 1
            task(true, 0, 0) -> 0
            ofWorker(2, 1) -> 1
            ofWorker(3, 1) -> 1
            run(2) -> 2
            task(true, 1, 0) -> 2
            run(1) -> notnow
            worker(0, true)
            run(1) -> 1
            ofWorker(0, 1) -> 0
            """);
        script.play("a second time: most units left, then the least number", """
            chunk(3, 1, 1) -> 0                  // 3 units
            chunk(0x030303, 3, 1) -> 1           // 7 units
            begin(2, 0, 1, 6) -> 2
            run(1) -> 1
            ofWorker(0, 1) -> 0
            ofWorker(1, 1) -> 1
            ofWorker(2, 1) -> 1
            ofWorker(2, 2) -> 6                  // from its beginning
            ofWorker(3, 1) -> 0
            count(4) -> 2
            new
            chunk(3, 1, 1) -> 0
            chunk(3, 1, 1) -> 1
            begin(2, 0, 1, 6) -> 2
            run(1) -> 1
            ofWorker(2, 1) -> 0
            ofWorker(3, 1) -> 1
            new
            chunk(3, 1, 1) -> 0                  // units left count, not those needed
            chunk(0x0303, 2, 1) -> 1
            speed(1, 4)
            worker(3, false)
            begin(2, 0, 1, 2) -> 2
            run(1) -> 1
            ofWorker(0, 2) -> 2
            ofWorker(1, 2) -> 1
            ofWorker(2, 1) -> 0
            """);
        script.play("no reduce task before all map tasks are done", """
            chunk(3, 1, 1) -> 0
            chunk(0, 6, 1) -> 1
            speed(0, 4)
            begin(2, 0, 1, 2) -> 2
            run(1) -> 1
            task(true, 0, 0) -> 2
            run(1) -> 1
            ofWorker(0, 1) -> -1                 // two do map task 1
            ofWorker(3, 1) -> -1
            """);
        script.play("reduce tasks: the least, then the most left a second time", """
            chunk(0x0503020401, 5, 1) -> 0       // keys 1, 1, 2, 0, 2 by GROUP
            speed(0, 4)
            worker(1, false)
            begin(2, 0, 3, 6) -> 1
            run(2) -> 2
            ofWorker(0, 2) -> 3
            run(1) -> 1
            task(true, 0, 0) -> 2
            task(false, 0, 1) -> 2
            task(false, 1, 1) -> 3
            task(false, 2, 1) -> 3
            ofWorker(2, 1) -> 8
            ofWorker(3, 1) -> 9
            run(1) -> 1
            task(false, 2, 3) -> 0               // speed 4: done at once
            task(false, 0, 3) -> 2
            ofWorker(3, 2) -> 1
            run(1) -> 1
            count(3) -> 1
            find(0) -> 3
            find(1) -> 5
            find(2) -> 7
            """);
        script.play("reduce tasks a second time: of those alike the least number", """
            chunk(0x04030403, 4, 1) -> 0         // 9 units; then 3 for each of two partitions
            speed(0, 4)
            begin(2, 0, 2, 6) -> 1
            run(3) -> 3
            task(true, 0, 3) -> 0
            ofWorker(1, 1) -> 8
            ofWorker(1, 2) -> 2
            ofWorker(2, 1) -> 9
            ofWorker(2, 2) -> 2
            ofWorker(3, 1) -> 8
            ofWorker(3, 2) -> 2                  // from its beginning
            count(4) -> 2
            run(1) -> 1
            ofWorker(0, 1) -> -1                 // 9 is done at once, the second time
            task(false, 1, 3) -> 0
            count(4) -> 3
            """);
        script.play("reduce tasks need no chunk to be read", """
            chunk(0x0303, 2, 1) -> 0             // homes 0 and 1; 5 units, then 3
            worker(0, false)
            worker(3, false)
            begin(2, 0, 1, 2) -> 1
            run(1) -> 1
            ofWorker(1, 1) -> 0
            ofWorker(2, 1) -> 0
            worker(1, false)
            run(4) -> 4                          // worker 2 goes on
            task(true, 0, 3) -> 2
            run(1) -> 1
            ofWorker(2, 1) -> 8
            worker(3, true)
            count(4) -> 1
            run(1) -> 1
            ofWorker(3, 1) -> 8                  // a second time, too
            count(4) -> 2
            run(100) -> 1
            find(0) -> 6
            """);
        script.play("after the last worker: the job has ended, whoever was the last", """
            chunk(3, 1, 1) -> 0                  // 3 units, then 2
            worker(0, false)
            worker(2, false)
            worker(3, false)
            begin(2, 0, 1, 2) -> 1
            run(3) -> 3
            count(1) -> 1
            worker(3, true)
            run(2) -> 2                          // worker 1 is done first, 3 has nothing to do any more
            count(1) -> 0
            ofWorker(1, 3) -> 5
            ofWorker(3, 3) -> 1
            new
            chunk(3, 1, 1) -> 0
            chunk(3, 1, 1) -> 1
            chunk(3, 1, 1) -> 2
            worker(0, false)
            worker(1, false)
            worker(2, false)
            begin(2, 0, 1, 2) -> 3
            run(100) -> notnow
            worker(1, true)
            run(3) -> 3                          // 1 does 0, and 3 does 1: all map tasks are done
            task(true, 0, 3) -> 1
            task(true, 1, 3) -> 3
            task(true, 2, 3) -> 3
            run(4) -> 4                          // 4 units
            count(3) -> 1
            find(0) -> 9
            """);
        script.play("a tick in which a task has been done is not stuck, the next one is", """
            chunk(3, 1, 1) -> 0                  // homes 0 and 1
            chunk(3, 1, 1) -> 1                  // homes 1 and 2
            worker(0, false)
            worker(1, false)
            worker(3, false)
            begin(2, 0, 1, 2) -> 2
            run(3) -> 3
            ofWorker(2, 1) -> -1
            task(true, 1, 0) -> 2
            run(100) -> notnow
            run(1) -> notnow
            count(2) -> 5
            count(1) -> 1
            """);
        script.play("stuck: that tick counts, the job stays", """
            chunk(3, 1, 1) -> 0
            begin(2, 0, 1, 2) -> 1
            worker(0, false)
            worker(1, false)
            run(100) -> notnow
            count(2) -> 1
            count(1) -> 1
            run(1) -> notnow
            count(2) -> 2
            worker(1, true)
            run(2) -> 2
            worker(1, false)
            run(2) -> 2                          // worker 2 does it and need not read any more
            count(2) -> 6
            """);
        script.play("stuck after some ticks: these stay", """
            chunk(3, 1, 1) -> 0
            chunk(3, 1, 1) -> 1
            begin(2, 0, 1, 2) -> 2
            worker(0, false)
            worker(1, false)
            run(100) -> notnow
            count(2) -> 4                        // three for map task 1, one in which nothing is done
            task(true, 1, 0) -> 2
            ofWorker(2, 3) -> 3
            run(1) -> notnow
            count(2) -> 5
            """);
        script.play("all workers down: stuck, also with all map tasks done", """
            chunk(3, 1, 1) -> 0
            begin(2, 0, 1, 2) -> 1
            worker(2, false)
            worker(3, false)
            run(2) -> 2
            run(1) -> 1
            task(true, 0, 0) -> 2
            worker(1, false)
            worker(0, false)
            run(1) -> notnow
            count(2) -> 4
            """);
        script.play("a reducer that fails", """
            chunk(0x03, 1, 1) -> 0
            begin(2, 0, 1, 2) -> 1
            run(100) -> 4
            chunk(0x00, 1, 1) -> 1
            begin(2, 4, 1, 2) -> 2               // 3 / 0
            run(100) -> fails
            count(1) -> 0
            count(3) -> 1
            run(1) -> notnow
            stop() -> notnow
            task(true, 0, 0) -> notnow
            output(0, -1, 0) -> 1                // of the job before
            find(0) -> 3
            chunk(1, 1, 1) -> 2
            """);
        script.play("in the tick of the failure nothing more is done", """
            chunk(0x0003, 2, 1) -> 0             // 5 units, then 3
            begin(2, 4, 1, 2) -> 1
            run(6) -> 6
            ofWorker(1, 1) -> 8
            ofWorker(1, 2) -> 1
            ofWorker(2, 1) -> 8
            ofWorker(2, 2) -> 1
            run(100) -> fails
            count(2) -> 7
            ofWorker(0, 3) -> 5
            ofWorker(1, 3) -> 7
            ofWorker(2, 3) -> 2
            ofWorker(3, 3) -> 0
            ofWorker(1, 1) -> -1
            ofWorker(1, 2) -> 0
            ofWorker(2, 1) -> -1
            ofWorker(2, 2) -> 0
            output(0, -1, 0) -> missing
            find(0) -> missing
            count(3) -> 0
            """);
        script.play("ticks of a run that fails stay, and so do those before it", """
            chunk(0x0003, 2, 1) -> 0             // 5 units, then 3
            begin(2, 4, 1, 2) -> 1
            run(100) -> fails
            count(2) -> 7
            ofWorker(1, 3) -> 7
            count(1) -> 0
            begin(2, 0, 1, 2) -> 1               // the next one may begin at once
            ofWorker(1, 1) -> -1
            task(true, 0, 0) -> 0
            task(false, 0, 0) -> 0
            run(100) -> 7
            count(2) -> 14
            find(0) -> 3
            """);
        script.play("it fails when its reduce task is done, not before", """
            chunk(0x010403000603, 6, 1) -> 0     // key 0: 3, 6, 0, 3; key 1: 4, 1
            worker(1, false)
            worker(2, false)
            worker(3, false)
            speed(0, 4)
            begin(2, 4, 2, 6) -> 1
            run(4) -> 4                          // 13 units
            task(true, 0, 0) -> 2
            run(1) -> 1                          // 4 of 5
            run(1) -> fails
            count(2) -> 6
            ofWorker(0, 3) -> 18
            """);
        script.play("done reduce tasks of a failed job give no output", """
            chunk(0x010003, 3, 1) -> 0           // key 0: 3, 0: 3 units; key 1: 1: 2 units; map task: 8
            begin(2, 4, 2, 2) -> 1
            run(9) -> 9
            task(false, 0, 0) -> 1
            task(false, 1, 0) -> 2
            run(1) -> fails
            count(2) -> 10
            output(0, -1, 0) -> missing
            output(1, -1, 0) -> missing
            find(1) -> missing
            """);
        script.end();
    }
}
