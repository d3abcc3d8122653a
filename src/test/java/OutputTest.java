/** Promise 9: output, and the order that the terms ask for. */
public final class OutputTest {
    public static void main(String[] args) {
        Script script = new Script();
        script.play("bad comes before missing", """
            output(-1, -1, 0) -> bad
            output(3, -1, 0) -> bad
            output(2147483647, 0, 0) -> bad
            output(-2147483648, 0, 0) -> bad
            output(0, -1, -1) -> bad
            output(0, -1, 2) -> bad
            output(0, -2, 2) -> bad
            output(0, 0, 2147483647) -> bad
            output(0, -1, 0) -> missing
            output(2, 0, 1) -> missing
            """);
        script.play("keys rising in each partition", """
            chunk(0x040302010005, 6, 2) -> 0     // 10, 0, 2, 4, 6, 8: keys 5, 0, 1, 2, 3, 4 by HALVES
            chunk(0xFDFEFF, 3, 2) -> 1           // -2, -4, -6: keys -1, -2, -3
            begin(3, 0, 2, 2) -> 2
            run(100)
            output(0, -1, 0) -> 4
            output(0, -1, 1) -> 4
            output(0, 0, 0) -> -2
            output(0, 0, 1) -> -4
            output(0, 1, 0) -> 0
            output(0, 1, 1) -> 0
            output(0, 2, 0) -> 2
            output(0, 2, 1) -> 4
            output(0, 3, 0) -> 4
            output(0, 3, 1) -> 8
            output(0, 4, 0) -> missing
            output(0, 4, 1) -> missing
            output(1, -1, 0) -> 5
            output(1, 0, 0) -> -3
            output(1, 1, 0) -> -1
            output(1, 2, 0) -> 1
            output(1, 3, 0) -> 3
            output(1, 4, 0) -> 5
            output(1, 4, 1) -> 10
            output(1, 5, 0) -> missing
            output(1, 2147483647, 0) -> missing
            output(1, -2, 0) -> missing
            output(1, -2147483648, 1) -> missing
            output(2, -1, 0) -> missing          // no such partition
            output(2, 0, 0) -> missing
            """);
        script.play("keys below 0 in three partitions", """
            chunk(0xFDFEFF, 3, 2) -> 0           // keys -1, -2, -3
            begin(3, 0, 3, 2) -> 1
            run(100)
            output(0, 0, 0) -> -3
            output(1, 0, 0) -> -2
            output(2, 0, 0) -> -1
            """);
        script.play("a partition without keys is there", """
            chunk(3, 1, 1) -> 0
            begin(2, 0, 3, 2) -> 1
            run(100)
            output(0, -1, 1) -> 1
            output(1, -1, 0) -> 0
            output(1, 0, 0) -> missing
            output(2, -1, 0) -> 0
            """);
        script.play("no pair at all", """
            chunk(0x0503FF, 3, 1) -> 0           // odd: none by HALVES
            begin(3, 0, 3, 2) -> 1
            count(6) -> 0
            task(true, 0, 1) -> 6
            task(true, 0, 2) -> 0
            run(6) -> 6
            count(1) -> 0                        // one unit for each reduce task, in the same tick
            count(3) -> 1
            output(0, -1, 0) -> 0
            output(1, -1, 1) -> 0
            output(2, -1, 0) -> 0
            output(0, 0, 0) -> missing
            find(0) -> missing
            """);
        script.play("values as they came, over buffers and chunks", """
            chunk(0x0C0103040609, 6, 1) -> 0     // key 0: 9, 6, 3, 12; key 1: 4, 1
            chunk(0x070A0F, 3, 1) -> 1           // key 0: 15; key 1: 10, 7
            begin(2, 3, 1, 2) -> 2
            run(100)
            output(0, 0, 1) -> 8493705           // 9, 6, 3, 12, 15
            output(0, 1, 1) -> 120442            // 4, 1, 10, 7
            begin(2, 3, 2, 5) -> 2
            run(100)
            output(0, 0, 1) -> 8493705
            output(1, 0, 1) -> 120442
            """);
        script.play("the same whoever does the tasks, and in whatever order", """
            chunk(0x0C0103040609, 6, 1) -> 0
            chunk(0x070A0F, 3, 1) -> 1
            worker(0, false)
            worker(1, false)
            begin(2, 3, 1, 2) -> 2
            run(100) -> notnow                   // map task 1 first
            task(true, 1, 0) -> 2
            worker(0, true)
            worker(2, false)
            run(100) -> notnow
            worker(1, true)
            run(100)
            output(0, 0, 1) -> 8493705
            output(0, 1, 1) -> 120442
            """);
        script.play("of the latest job that ended, also while another is under way", """
            chunk(0x0103, 2, 1) -> 0
            begin(2, 0, 1, 2) -> 1
            output(0, -1, 0) -> missing
            run(5) -> 5
            output(0, -1, 0) -> missing
            run(100)
            output(0, 0, 1) -> 3
            begin(2, 1, 2, 2) -> 1
            output(0, 0, 1) -> 3
            output(1, -1, 0) -> missing
            run(5) -> 5
            output(0, 0, 1) -> 3
            run(100)
            output(0, 0, 1) -> 1
            output(1, -1, 0) -> 1
            begin(2, 0, 1, 2) -> 1
            output(1, 0, 0) -> 1
            run(100)
            output(0, -1, 0) -> 2
            output(1, -1, 0) -> missing
            """);
        script.play("thirty-six keys", """
            chunk(0x060504030201, 6, 2) -> 0
            chunk(0x060504030201, 6, 20) -> 1
            chunk(0x060504030201, 6, 200) -> 2
            chunk(0x060504030201, 6, -2) -> 3
            chunk(0x060504030201, 6, -20) -> 4
            chunk(0x060504030201, 6, -200) -> 5
            begin(3, 0, 1, 6) -> 6
            count(6) -> 36
            run(100)
            output(0, -1, 0) -> 36
            output(0, 0, 0) -> -600
            output(0, 35, 0) -> 600
            output(0, 35, 1) -> 1200
            output(0, 36, 0) -> missing
            """);
        script.end();
    }
}
