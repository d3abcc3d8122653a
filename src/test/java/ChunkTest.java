/** Promise 2: chunk. */
public final class ChunkTest {
    public static void main(String[] args) {
        Script script = new Script();
        script.play("bytes have a sign and are multiplied", """
            chunk(0x01FF7F80, 4, 2) -> 0          // -256, 254, -2, 2
            begin(3, 0, 1, 2) -> 1
            run(100)
            output(0, -1, 0) -> 4
            output(0, 0, 0) -> -128
            output(0, 0, 1) -> -256
            output(0, 1, 0) -> -1
            output(0, 1, 1) -> -2
            output(0, 2, 0) -> 1
            output(0, 2, 1) -> 2
            output(0, 3, 0) -> 127
            output(0, 3, 1) -> 254
            """);
        script.play("the lowest byte is first", """
            chunk(0x090603, 3, 1) -> 0            // 3, 6, 9
            begin(2, 3, 1, 2) -> 1
            run(100)
            find(0) -> 3078                       // (3 * 31 + 6) * 31 + 9
            """);
        script.play("bytes above the n lowest do not count", """
            chunk(0x090603, 2, 1) -> 0
            begin(2, 3, 1, 2)
            run(100)
            find(0) -> 99                         // 3 * 31 + 6
            new
            chunk(0x7F7F0C0000000003, 6, 1) -> 0  // 3, 0, 0, 0, 0, 12
            begin(2, 0, 1, 2)
            run(100)
            find(0) -> 15
            new
            chunk(-1, 6, 7) -> 0                  // -7 six times
            begin(4, 0, 1, 2)
            run(100)
            find(-1) -> -42
            find(2) -> 6
            """);
        script.play("the greatest and the least long", """
            chunk(9223372036854775807, 6, 1) -> 0   // -1 six times
            chunk(-9223372036854775808, 6, 1) -> 1  // 0 six times
            begin(4, 1, 1, 2) -> 2
            count(6) -> 18
            run(100)
            find(-1) -> 6
            find(0) -> 6
            find(2) -> 6
            find(1) -> missing
            """);
        script.play("a byte is below 0 from 128 on", """
            chunk(0x807F, 2, 1) -> 0             // 127, -128
            begin(4, 0, 1, 2) -> 1
            run(100)
            find(1) -> 127
            find(-1) -> -128
            """);
        script.play("factors from -1000 to 1000", """
            chunk(0x80, 1, -1000) -> 0
            chunk(0x80, 1, 1000) -> 1
            chunk(0x7F, 1, 0) -> 2
            chunk(1, 1, 1001) -> bad
            chunk(1, 1, -1001) -> bad
            chunk(1, 1, 2147483647) -> bad
            chunk(1, 1, -2147483648) -> bad
            count(0) -> 3
            begin(4, 2, 1, 2) -> 3
            run(100)
            find(1) -> 128000
            find(-1) -> -128000
            find(0) -> 0
            """);
        script.play("one to six numbers, six chunks", """
            chunk(1, 0, 1) -> bad
            chunk(1, 7, 1) -> bad
            chunk(1, -1, 1) -> bad
            chunk(1, -2147483648, 1) -> bad
            chunk(1, 2147483647, 1) -> bad
            count(0) -> 0
            chunk(1, 1, 1) -> 0
            chunk(1, 2, 1) -> 1
            chunk(1, 3, 1) -> 2
            chunk(1, 4, 1) -> 3
            chunk(1, 5, 1) -> 4
            count(0) -> 5
            chunk(1, 6, 1) -> 5
            count(0) -> 6
            chunk(1, 1, 1) -> notnow
            chunk(1, 7, 1) -> bad
            chunk(1, 1, 1001) -> bad
            count(0) -> 6
            begin(0, 0, 1, 2) -> 6
            task(true, 0, 1) -> 3
            task(true, 5, 1) -> 15
            """);
        script.play("not while a job is under way", """
            chunk(3, 1, 1) -> 0
            begin(0, 0, 1, 2) -> 1
            chunk(3, 1, 1) -> notnow
            chunk(3, 0, 1) -> bad
            chunk(3, 1, -1001) -> bad
            count(0) -> 1
            stop()
            chunk(3, 1, 1) -> 1
            begin(0, 0, 1, 2) -> 2
            run(100)
            chunk(3, 1, 1) -> 2
            """);
        script.end();
    }
}
