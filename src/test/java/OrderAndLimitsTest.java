/** Promise 14: Order and limits. */
public final class OrderAndLimitsTest {
    public static void main(String[] args) {
        Script script = new Script();
        script.play("no second time for a chunk that can't be read", """
            chunk(0, 6, 1) -> 0                  // homes 0 and 1
            worker(0, false)
            worker(2, false)
            begin(0, 0, 1, 2) -> 1
            run(1) -> 1
            ofWorker(1, 1) -> 0
            ofWorker(3, 1) -> 0
            worker(1, false)
            worker(2, true)
            count(4) -> 1
            run(1) -> 1
            ofWorker(2, 1) -> -1
            ofWorker(3, 1) -> 0
            ofWorker(3, 2) -> 13
            count(4) -> 1
            worker(0, true)
            run(1) -> 1
            ofWorker(0, 1) -> 0
            count(4) -> 2
            """);
        script.play("chunk 3 has its homes at 3 and 0", """
            chunk(3, 1, 1) -> 0
            chunk(3, 1, 1) -> 1
            chunk(3, 1, 1) -> 2
            chunk(0, 6, 1) -> 3
            speed(1, 3)
            speed(2, 3)
            begin(2, 0, 1, 2) -> 4
            run(1) -> 1
            ofWorker(3, 1) -> 3
            worker(3, false)
            worker(2, false)                     // map task 2 is lost
            speed(0, 4)
            run(1) -> 1
            task(true, 0, 3) -> 0
            ofWorker(1, 1) -> 3                  // chunk 2 can't be read
            ofWorker(1, 2) -> 12
            worker(0, false)
            worker(2, true)
            count(5) -> 2
            speed(1, 1)
            run(2) -> 2
            task(true, 2, 3) -> 2
            task(true, 0, 3) -> 2
            run(1) -> 1
            ofWorker(1, 2) -> 9
            ofWorker(2, 1) -> -1                 // map task 3 is done by 1 alone, yet 3 and 0 are down
            count(4) -> 0
            worker(3, true)
            run(1) -> 1
            ofWorker(2, 1) -> 3
            ofWorker(2, 2) -> 12
            count(4) -> 1
            """);
        script.play("output with i below -1 is missing", """
            output(0, -2, 0) -> missing
            chunk(3, 1, 1) -> 0
            begin(2, 0, 1, 2) -> 1
            run(100)
            output(0, -1, 0) -> 1
            output(0, -2, 0) -> missing
            output(0, -2, 1) -> missing
            output(0, -2147483648, 0) -> missing
            output(0, -2, 2) -> bad
            output(3, -2, 0) -> bad
            """);
        script.end();
    }
}
