/** Promise 12: ofWorker. */
public final class OfWorkerTest {
    public static void main(String[] args) {
        Script script = new Script();
        script.play("ranges", """
            ofWorker(-1, 0) -> bad
            ofWorker(4, 0) -> bad
            ofWorker(0, -1) -> bad
            ofWorker(0, 4) -> bad
            ofWorker(2147483647, 0) -> bad
            ofWorker(0, -2147483648) -> bad
            ofWorker(3, 3) -> 0
            """);
        script.play("up, task, units left, units done", """
            chunk(3, 1, 1) -> 0
            chunk(3, 1, 1) -> 1
            chunk(3, 1, 1) -> 2
            chunk(3, 1, 1) -> 3
            chunk(3, 1, 1) -> 4
            chunk(3, 1, 1) -> 5
            begin(2, 0, 3, 2) -> 6
            ofWorker(0, 1) -> -1
            run(2) -> 2
            ofWorker(0, 1) -> 0
            ofWorker(1, 1) -> 1
            ofWorker(2, 1) -> 2
            ofWorker(3, 1) -> 3
            ofWorker(3, 2) -> 1
            ofWorker(3, 3) -> 2
            run(1) -> 1
            ofWorker(3, 1) -> -1
            ofWorker(3, 2) -> 0
            ofWorker(3, 3) -> 3
            run(1) -> 1
            ofWorker(0, 1) -> 4
            ofWorker(1, 1) -> 5
            ofWorker(2, 1) -> 4
            ofWorker(3, 1) -> 5
            ofWorker(3, 2) -> 2
            worker(3, false)
            ofWorker(3, 0) -> 0
            ofWorker(3, 1) -> -1
            ofWorker(3, 2) -> 0
            ofWorker(3, 3) -> 4
            count(5) -> 1
            worker(3, true)
            ofWorker(3, 0) -> 1
            ofWorker(3, 1) -> -1
            run(1) -> 1
            ofWorker(3, 1) -> 3
            """);
        script.play("reduce tasks are 8 to 10; units go on over jobs", """
            chunk(3, 1, 1) -> 0
            speed(0, 3)
            begin(2, 0, 3, 2) -> 1
            run(1) -> 1
            ofWorker(0, 3) -> 3
            ofWorker(1, 1) -> 8
            ofWorker(1, 2) -> 1
            ofWorker(2, 1) -> -1                 // reduce task 1 needs one unit
            ofWorker(2, 3) -> 1
            ofWorker(3, 1) -> -1
            run(100) -> 1
            ofWorker(0, 3) -> 5
            ofWorker(1, 3) -> 1
            speed(0, 1)
            begin(2, 0, 3, 2) -> 1
            run(2) -> 2
            ofWorker(0, 3) -> 7
            ofWorker(1, 3) -> 3
            new
            chunk(0x050504040303, 6, 1) -> 0     // two pairs for each of three keys: 3 units each
            speed(0, 4)
            begin(2, 0, 3, 6) -> 1
            run(4) -> 4
            ofWorker(1, 1) -> 8
            ofWorker(2, 1) -> 9
            ofWorker(3, 1) -> 10
            ofWorker(3, 2) -> 2
            """);
        script.end();
    }
}
