/** Promise 8: stop. */
public final class StopTest {
    public static void main(String[] args) {
        Script script = new Script();
        script.play("not without a job", """
            stop() -> notnow
            chunk(3, 1, 1) -> 0
            stop() -> notnow
            begin(2, 0, 1, 2) -> 1
            stop()
            stop() -> notnow
            begin(2, 0, 1, 2) -> 1
            run(100) -> 4
            stop() -> notnow
            """);
        script.play("the job is over, ticks and units stay", """
            chunk(3, 1, 1) -> 0
            begin(2, 0, 1, 2) -> 1
            run(3) -> 3
            ofWorker(1, 1) -> 8
            stop()
            count(1) -> 0
            count(2) -> 3
            count(3) -> 0
            count(4) -> 2
            ofWorker(0, 1) -> -1
            ofWorker(1, 1) -> -1
            ofWorker(1, 2) -> 0
            ofWorker(1, 3) -> 3
            ofWorker(2, 1) -> -1
            run(1) -> notnow
            task(true, 0, 0) -> notnow
            output(0, -1, 0) -> missing
            find(0) -> missing
            """);
        script.play("all workers are idle after it", """
            chunk(3, 1, 1) -> 0
            chunk(3, 1, 1) -> 1
            begin(2, 0, 1, 2) -> 2
            run(1) -> 1
            ofWorker(0, 1) -> 0
            ofWorker(3, 1) -> 1
            stop()
            ofWorker(0, 1) -> -1
            ofWorker(0, 2) -> 0
            ofWorker(1, 1) -> -1
            ofWorker(2, 1) -> -1
            ofWorker(3, 1) -> -1
            ofWorker(3, 2) -> 0
            """);
        script.play("without output: that of the latest that ended stays", """
            chunk(0x0103, 2, 1) -> 0             // keys 0 and 1
            begin(2, 0, 1, 2) -> 1
            run(100)
            count(3) -> 1
            begin(2, 1, 3, 2) -> 1
            run(5) -> 5
            task(false, 2, 0) -> 2
            stop()
            count(3) -> 1
            output(0, -1, 0) -> 2
            output(0, 0, 1) -> 3
            output(0, 1, 1) -> 1
            output(1, -1, 0) -> missing
            find(0) -> 3
            """);
        script.end();
    }
}
