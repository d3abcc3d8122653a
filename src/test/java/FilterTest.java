/** Promise 5: filter. */
public final class FilterTest {
    // 3, 6, -3, 0 by GROUP: all of key 0.
    private static final String FOUR_OF_KEY_0 = """
        chunk(0x00FD0603, 4, 1) -> 0
        """;

    public static void main(String[] args) {
        Script script = new Script();
        script.play("values below it are left out, the value itself is not", FOUR_OF_KEY_0 + """
            filter(3)
            begin(2, 3, 1, 2) -> 1
            run(100)
            find(0) -> 99                        // 3 * 31 + 6
            filter(4)
            begin(2, 3, 1, 2)
            run(100)
            find(0) -> 6
            filter(0)
            begin(2, 1, 1, 2)
            run(100)
            find(0) -> 3
            filter(-3)
            begin(2, 1, 1, 2)
            run(100)
            find(0) -> 4
            filter(-2147483648)
            begin(2, 1, 1, 2)
            run(100)
            find(0) -> 4
            """);
        script.play("a key without values is not there", FOUR_OF_KEY_0 + """
            filter(7)
            begin(2, 1, 1, 2)
            run(100)
            output(0, -1, 0) -> 0
            output(0, 0, 0) -> missing
            find(0) -> missing
            filter(2147483647)
            begin(2, 0, 1, 2)
            run(100)
            output(0, -1, 0) -> 0
            """);
        script.play("before reducing, so units, runs and pairs are the same", FOUR_OF_KEY_0 + """
            worker(1, false)
            worker(2, false)
            worker(3, false)
            filter(100)
            begin(2, 0, 1, 2) -> 1
            count(6) -> 4
            task(true, 0, 1) -> 10
            task(true, 0, 2) -> 2
            run(10) -> 10
            task(false, 0, 1) -> 5
            run(100) -> 5
            """);
        script.play("what is left out can't fail, and what is left is first", FOUR_OF_KEY_0 + """
            begin(2, 4, 1, 2)
            run(100) -> fails                    // 3 / 6 / -3 / 0
            filter(1)
            begin(2, 4, 1, 2)
            run(100)
            find(0) -> 0                         // 3 / 6
            filter(5)
            begin(2, 4, 1, 2)
            run(100)
            find(0) -> 6
            """);
        script.play("for jobs from now on, not for the one under way", FOUR_OF_KEY_0 + """
            begin(2, 1, 1, 2)
            filter(4)
            run(3) -> 3
            filter(5)
            run(100)
            find(0) -> 4
            begin(2, 1, 1, 2)
            filter(-100)
            run(100)
            find(0) -> 1
            begin(2, 1, 1, 2)
            run(100)
            find(0) -> 4
            """);
        script.play("kept for all later jobs", FOUR_OF_KEY_0 + """
            filter(4)
            begin(2, 1, 1, 2)
            stop()
            begin(2, 1, 1, 2)
            run(100)
            find(0) -> 1
            begin(4, 0, 1, 2)                    // values 1 of key 2 are below it, too
            run(100)
            find(1) -> 6
            find(2) -> missing
            find(0) -> missing
            find(-1) -> missing
            output(0, -1, 0) -> 1
            """);
        script.end();
    }
}
