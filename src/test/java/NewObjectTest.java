/** Promise 1: A new object. */
public final class NewObjectTest {
    public static void main(String[] args) {
        Script script = new Script();
        script.play("nothing is there", """
            count(0) -> 0
            count(1) -> 0
            count(2) -> 0
            count(3) -> 0
            count(4) -> 0
            count(5) -> 0
            count(6) -> 0
            output(0, -1, 0) -> missing
            output(0, 0, 1) -> missing
            find(0) -> missing
            task(true, 0, 0) -> notnow
            task(false, 0, 0) -> notnow
            begin(0, 0, 1, 2) -> notnow
            run(1) -> notnow
            stop() -> notnow
            count(2) -> 0
            """);
        script.play("workers are up, idle and of speed 1", """
            ofWorker(0, 0) -> 1
            ofWorker(1, 0) -> 1
            ofWorker(2, 0) -> 1
            ofWorker(3, 0) -> 1
            ofWorker(0, 1) -> -1
            ofWorker(3, 1) -> -1
            ofWorker(0, 2) -> 0
            ofWorker(3, 2) -> 0
            ofWorker(0, 3) -> 0
            ofWorker(3, 3) -> 0
            chunk(3, 1, 1) -> 0
            chunk(3, 1, 1) -> 1
            begin(2, 0, 1, 2) -> 2
            run(1) -> 1
            ofWorker(0, 3) -> 1
            ofWorker(1, 3) -> 1
            ofWorker(2, 3) -> 1
            ofWorker(3, 3) -> 1
            """);
        script.play("the filter leaves nothing out", """
            chunk(0x80, 1, 1000) -> 0
            begin(2, 0, 1, 2) -> 1
            run(100) -> 4
            output(0, -1, 0) -> 1
            output(0, 0, 1) -> -128000
            """);
        script.play("two objects share nothing", """
            chunk(1, 1, 1) -> 0
            worker(0, false)
            new
            count(0) -> 0
            ofWorker(0, 0) -> 1
            """);
        script.end();
    }
}
