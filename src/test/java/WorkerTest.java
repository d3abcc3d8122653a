/** Promise 3: worker, and what the terms say of a worker going down. */
public final class WorkerTest {
    // 3, 1, 4, 7 by GROUP into two partitions: the map task needs 10 units, the reduce tasks 2 and 4.
    private static final String ONE_REDUCE_TASK_DONE = """
        chunk(0x07040103, 4, 1) -> 0
        begin(2, 0, 2, 2) -> 1
        run(10) -> 10
        task(true, 0, 3) -> 0
        ofWorker(0, 1) -> -1
        ofWorker(1, 1) -> 8
        ofWorker(2, 1) -> 9
        ofWorker(3, 1) -> 9
        run(1) -> 1
        ofWorker(0, 1) -> -1
        ofWorker(1, 1) -> -1
        ofWorker(2, 2) -> 2
        ofWorker(3, 2) -> 2
        task(false, 0, 0) -> 2
        task(false, 1, 0) -> 1
        count(4) -> 3
        """;

    public static void main(String[] args) {
        Script script = new Script();
        script.play("workers 0 to 3", """
            worker(-1, true) -> bad
            worker(4, false) -> bad
            worker(2147483647, true) -> bad
            worker(-2147483648, false) -> bad
            worker(0, false)
            worker(3, false)
            ofWorker(0, 0) -> 0
            ofWorker(1, 0) -> 1
            ofWorker(2, 0) -> 1
            ofWorker(3, 0) -> 0
            worker(0, true)
            ofWorker(0, 0) -> 1
            ofWorker(3, 0) -> 0
            """);
        script.play("as it is already: nothing", """
            chunk(3, 1, 1) -> 0
            begin(2, 0, 1, 2) -> 1
            run(2) -> 2
            worker(0, true)
            ofWorker(0, 1) -> 0
            ofWorker(0, 2) -> 1
            run(1) -> 1
            worker(0, true)
            task(true, 0, 0) -> 2
            worker(0, false)
            worker(0, false)
            count(5) -> 1
            ofWorker(0, 0) -> 0
            ofWorker(0, 3) -> 3
            """);
        script.play("its task is being done by it no more", """
            chunk(3, 1, 1) -> 0                  // 3 units, then 2 for the reduce task
            begin(2, 0, 1, 2) -> 1
            run(1) -> 1
            task(true, 0, 3) -> 0
            worker(0, false)
            ofWorker(0, 1) -> -1
            ofWorker(0, 2) -> 0
            ofWorker(0, 3) -> 1
            task(true, 0, 0) -> 1                // worker 1 does it, too
            task(true, 0, 3) -> 1
            ofWorker(1, 2) -> 2
            worker(1, false)
            task(true, 0, 0) -> 0
            task(true, 0, 3) -> -1
            count(5) -> 0
            worker(1, true)
            ofWorker(1, 1) -> -1
            run(1) -> 1
            ofWorker(1, 2) -> 2                  // from its beginning
            """);
        script.play("a map task done by it is not done any more, reduce tasks are given up", """
            chunk(3, 1, 1) -> 0
            begin(2, 0, 1, 2) -> 1
            run(3) -> 3
            ofWorker(1, 1) -> 8
            ofWorker(2, 1) -> 8
            task(false, 0, 1) -> 2
            worker(0, false)
            count(5) -> 1
            task(true, 0, 0) -> 0
            task(true, 0, 3) -> -1
            ofWorker(1, 1) -> -1
            ofWorker(1, 2) -> 0
            ofWorker(2, 1) -> -1
            ofWorker(2, 2) -> 0
            task(false, 0, 0) -> 0
            task(false, 0, 3) -> -1
            task(false, 0, 1) -> 0
            worker(0, true)
            task(true, 0, 0) -> 0
            count(5) -> 1
            run(100) -> 4
            find(0) -> 3
            """);
        script.play("a worker that did no map task takes only its own task along", """
            chunk(3, 1, 1) -> 0
            begin(2, 0, 1, 2) -> 1
            run(3) -> 3
            worker(1, false)
            count(5) -> 0
            task(true, 0, 0) -> 2
            ofWorker(2, 1) -> 8
            ofWorker(2, 2) -> 1
            task(false, 0, 3) -> 2
            run(100) -> 1
            """);
        script.play("map tasks being done go on when a done one is lost", """
            chunk(3, 1, 1) -> 0                  // 3 units
            chunk(0x030303, 3, 1) -> 1           // 8 units
            begin(2, 0, 1, 2) -> 2
            run(3) -> 3
            task(true, 0, 0) -> 2
            ofWorker(1, 1) -> 1
            ofWorker(1, 2) -> 5
            ofWorker(2, 1) -> 1
            worker(0, false)
            count(5) -> 1
            task(true, 0, 0) -> 0
            ofWorker(1, 1) -> 1
            ofWorker(1, 2) -> 5
            ofWorker(2, 2) -> 5
            """);
        script.play("outputs of reduce tasks are safe", ONE_REDUCE_TASK_DONE + """
            worker(0, false)
            count(5) -> 1
            ofWorker(2, 1) -> -1
            ofWorker(3, 1) -> -1
            task(false, 0, 0) -> 2
            task(false, 0, 3) -> 1
            task(false, 0, 1) -> 0
            task(false, 1, 0) -> 0
            worker(1, false)
            count(5) -> 1
            task(false, 0, 0) -> 2
            task(false, 0, 3) -> 1
            run(1) -> notnow                     // both homes are down: stuck
            worker(0, true)
            run(100) -> 13                       // 10 for the map task, reduce task 1 from the tenth on
            count(4) -> 5
            find(0) -> 3
            find(1) -> 12
            """);
        script.play("all map tasks done by it are lost, and only those", """
            chunk(3, 1, 1) -> 0
            chunk(3, 1, 1) -> 1
            chunk(3, 1, 1) -> 2
            speed(1, 4)
            worker(0, false)
            worker(2, false)
            worker(3, false)
            begin(2, 0, 1, 2) -> 3
            run(2) -> 2
            task(true, 0, 3) -> 1
            task(true, 1, 3) -> 1
            worker(2, true)
            worker(1, false)
            count(5) -> 2
            worker(1, true)
            run(1) -> 1
            task(true, 0, 3) -> 1
            task(true, 2, 0) -> 0
            ofWorker(2, 1) -> 1
            speed(2, 4)
            run(1) -> 1
            task(true, 1, 3) -> 2
            task(true, 2, 3) -> 1
            worker(1, false)
            count(5) -> 4
            task(true, 0, 0) -> 0
            task(true, 1, 0) -> 2
            task(true, 1, 3) -> 2
            task(true, 2, 0) -> 0
            """);
        script.play("the reduce task of worker 0 is given up, too", """
            chunk(0x01030103, 4, 1) -> 0         // 10 units; then 3 for each of two partitions
            speed(1, 4)
            begin(2, 0, 2, 2) -> 1
            run(4) -> 4
            task(true, 0, 3) -> 1
            task(false, 1, 3) -> 1
            ofWorker(0, 1) -> 8
            ofWorker(0, 2) -> 2
            ofWorker(2, 1) -> 8
            ofWorker(2, 2) -> 1
            worker(1, false)
            count(5) -> 1
            ofWorker(0, 1) -> -1
            ofWorker(0, 2) -> 0
            ofWorker(2, 1) -> -1
            task(false, 0, 0) -> 0
            task(false, 1, 0) -> 2
            """);
        script.play("without a job under way nothing is lost", """
            chunk(3, 1, 1) -> 0
            begin(2, 0, 1, 2) -> 1
            run(100) -> 4
            worker(0, false)
            worker(1, false)
            count(5) -> 0
            find(0) -> 3
            worker(0, true)
            worker(1, true)
            begin(2, 0, 1, 2) -> 1
            run(3) -> 3
            stop()
            worker(0, false)
            count(5) -> 0
            """);
        script.end();
    }
}
