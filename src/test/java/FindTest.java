/** Promise 10: find. */
public final class FindTest {
    public static void main(String[] args) {
        Script script = new Script();
        script.play("in every partition", """
            find(0) -> missing
            chunk(0x030201FDFEFF, 6, 2) -> 0     // keys -1, -2, -3, 1, 2, 3
            begin(3, 0, 3, 2) -> 1
            find(1) -> missing
            run(100)
            find(-3) -> -6
            find(-2) -> -4
            find(-1) -> -2
            find(0) -> missing
            find(1) -> 2
            find(2) -> 4
            find(3) -> 6
            find(4) -> missing
            find(-4) -> missing
            find(2147483647) -> missing
            find(-2147483648) -> missing
            begin(3, 1, 2, 2) -> 1
            find(3) -> 6
            run(100)
            find(-3) -> 1
            find(2) -> 1
            find(0) -> missing
            """);
        script.play("of the latest that ended", """
            chunk(0x04, 1, 1) -> 0
            begin(2, 0, 3, 2) -> 1
            run(100)
            find(1) -> 4
            begin(1, 0, 1, 2) -> 1
            find(1) -> 4
            find(4) -> missing
            run(1)
            stop()
            find(1) -> 4
            begin(1, 0, 1, 2) -> 1
            run(100)
            find(4) -> 1
            find(1) -> missing
            """);
        script.end();
    }
}
