/** Promise 4: speed. */
public final class SpeedTest {
    public static void main(String[] args) {
        Script script = new Script();
        script.play("workers 0 to 3, speeds 1 to 4", """
            speed(-1, 1) -> bad
            speed(4, 1) -> bad
            speed(0, 0) -> bad
            speed(0, 5) -> bad
            speed(0, -1) -> bad
            speed(3, 2147483647) -> bad
            speed(3, -2147483648) -> bad
            speed(2147483647, 4) -> bad
            speed(0, 1)
            speed(3, 4)
            """);
        script.play("a bad speed changes nothing", """
            speed(0, 3)
            speed(0, 5) -> bad
            speed(0, 0) -> bad
            chunk(0, 6, 1) -> 0
            begin(0, 0, 1, 2) -> 1
            run(1) -> 1
            ofWorker(0, 3) -> 3
            """);
        script.play("units in a tick, at most what is left", """
            chunk(0x030303, 3, 1) -> 0           // 6 and 2 runs: 8 units; then 4
            speed(0, 3)
            worker(1, false)
            worker(2, false)
            worker(3, false)
            begin(2, 0, 1, 2) -> 1
            run(1) -> 1
            ofWorker(0, 2) -> 5
            ofWorker(0, 3) -> 3
            run(1) -> 1
            ofWorker(0, 2) -> 2
            ofWorker(0, 3) -> 6
            run(1) -> 1
            ofWorker(0, 1) -> -1
            ofWorker(0, 2) -> 0
            ofWorker(0, 3) -> 8                  // no third unit is left to do
            run(1) -> 1
            ofWorker(0, 1) -> 8
            ofWorker(0, 2) -> 1
            run(100) -> 1
            ofWorker(0, 3) -> 12
            """);
        script.play("from now on, also in the midst of a task", """
            chunk(0, 6, 1) -> 0                  // 12 and 3 runs: 15 units
            begin(0, 0, 1, 2) -> 1
            run(1) -> 1
            ofWorker(0, 2) -> 14
            speed(0, 4)
            ofWorker(0, 2) -> 14
            run(1) -> 1
            ofWorker(0, 2) -> 10
            ofWorker(1, 2) -> 13
            speed(0, 2)
            speed(1, 3)
            run(1) -> 1
            ofWorker(0, 2) -> 8
            ofWorker(1, 2) -> 10
            speed(0, 1)
            run(1) -> 1
            ofWorker(0, 2) -> 7
            """);
        script.play("of a worker that is down, too", """
            chunk(0, 6, 1) -> 0                  // 15 units
            worker(0, false)
            speed(0, 4)
            ofWorker(0, 0) -> 0
            begin(0, 0, 1, 2) -> 1
            run(1) -> 1
            ofWorker(0, 3) -> 0
            worker(0, true)
            run(1) -> 1
            ofWorker(0, 3) -> 0                  // two do it already
            worker(2, false)
            run(1) -> 1
            ofWorker(0, 3) -> 4
            """);
        script.play("each has its own", """
            chunk(0, 6, 1)
            chunk(0, 6, 1)
            chunk(0, 6, 1)
            chunk(0, 6, 1)
            speed(1, 2)
            speed(2, 3)
            speed(3, 4)
            begin(0, 0, 1, 2) -> 4
            run(1) -> 1
            ofWorker(0, 3) -> 1
            ofWorker(1, 3) -> 2
            ofWorker(2, 3) -> 3
            ofWorker(3, 3) -> 4
            """);
        script.play("kept over a job's end and a worker's fall", """
            chunk(3, 1, 1) -> 0
            speed(0, 4)
            begin(2, 0, 1, 2) -> 1
            stop()
            worker(0, false)
            speed(1, 2)
            worker(0, true)
            begin(2, 0, 1, 2) -> 1
            run(1) -> 1
            ofWorker(0, 3) -> 3
            ofWorker(1, 3) -> 2                  // the reduce task at once, in the same tick
            count(3) -> 1
            """);
        script.end();
    }
}
