/** The mappers and reducers of the terms. */
public final class FunctionsTest {
    public static void main(String[] args) {
        Script script = new Script();
        script.play("COUNT: v modulo 5, from 0 on", """
            chunk(0x050401FFFB00, 6, 1) -> 0     // 0, -5, -1, 1, 4, 5
            begin(0, 0, 1, 2) -> 1
            run(100)
            output(0, -1, 0) -> 3
            find(0) -> 3
            find(1) -> 1
            find(4) -> 2
            """);
        script.play("DIGITS: without sign, 0 has one", """
            chunk(0x80, 1, 999) -> 0             // -127872
            chunk(0x00, 1, 1) -> 1
            chunk(0x0A, 1, 10) -> 2              // 100
            begin(1, 0, 3, 6) -> 3
            count(6) -> 10
            task(true, 0, 2) -> 1
            task(true, 1, 2) -> 1
            run(100)
            find(0) -> 3
            find(1) -> 2
            find(2) -> 2
            find(7) -> 2
            find(8) -> 1
            find(3) -> missing
            find(-1) -> missing
            """);
        script.play("GROUP: v modulo 3, from 0 on, v", """
            chunk(0x0201FEFFFD00, 6, 1) -> 0     // 0, -3, -1, -2, 1, 2
            begin(2, 3, 1, 2) -> 1
            run(100)
            find(0) -> -3                        // 0, -3
            find(1) -> -61                       // -2, 1
            find(2) -> -29                       // -1, 2
            """);
        script.play("HALVES: even ones alone", """
            chunk(0x0403FDFC0100, 6, 1) -> 0     // 0, 1, -4, -3, 3, 4
            begin(3, 0, 1, 2) -> 1
            count(6) -> 3
            run(100)
            output(0, -1, 0) -> 3
            find(0) -> 0
            find(-2) -> -4
            find(2) -> 4
            """);
        script.play("SIGNS: the sign and v, and 2 and 1 for v not 0", """
            chunk(0x0700FB03FE, 5, 1) -> 0       // -2, 3, -5, 0, 7
            begin(4, 3, 1, 2) -> 1
            count(6) -> 9
            run(100)
            output(0, -1, 0) -> 4
            find(-1) -> -67                      // -2, -5
            find(0) -> 0
            find(1) -> 100                       // 3, 7
            find(2) -> 30784                     // four times 1
            """);
        script.play("SIGNS next to 0", """
            chunk(0x0100FF, 3, 1) -> 0           // -1, 0, 1
            begin(4, 1, 1, 2) -> 1
            run(100)
            find(-1) -> 1
            find(0) -> 1
            find(1) -> 1
            find(2) -> 2
            """);
        script.play("as many pairs as there can be", """
            chunk(0x808080808080, 6, 1000) -> 0  // -128000 six times
            chunk(0x808080808080, 6, 1000) -> 1
            chunk(0x808080808080, 6, 1000) -> 2
            chunk(0x808080808080, 6, -1000) -> 3
            chunk(0x808080808080, 6, -1000) -> 4
            chunk(0x808080808080, 6, -1000) -> 5
            begin(1, 0, 1, 2) -> 6
            count(6) -> 216
            task(true, 5, 2) -> 18
            task(true, 5, 1) -> 30
            run(100) -> 100
            task(false, 0, 1) -> 217
            run(100) -> 100
            run(100)
            count(3) -> 1
            output(0, -1, 0) -> 4
            find(0) -> 108
            find(1) -> 36
            find(2) -> 36
            find(8) -> 36
            """);
        script.play("SUM, HOW MANY, GREATEST", """
            chunk(0xFA03FD, 3, 1) -> 0           // -3, 3, -6
            chunk(0xFFFEFC, 3, 1) -> 1           // -4, -2, -1: keys 2, 1, 2
            begin(2, 0, 1, 2)
            run(100)
            find(0) -> -6
            find(1) -> -2
            find(2) -> -5
            begin(2, 1, 1, 2)
            run(100)
            find(0) -> 3
            find(1) -> 1
            find(2) -> 2
            begin(2, 2, 1, 2)
            run(100)
            find(0) -> 3
            find(1) -> -2
            find(2) -> -1
            """);
        script.play("the greatest and the least sums", """
            chunk(0x808080808080, 6, 1000) -> 0  // -128000 six times
            chunk(0x808080808080, 6, 1000) -> 1
            chunk(0x808080808080, 6, 1000) -> 2
            chunk(0x808080808080, 6, -1000) -> 3
            chunk(0x808080808080, 6, -1000) -> 4
            chunk(0x808080808080, 6, -1000) -> 5
            begin(4, 0, 1, 6) -> 6
            run(100)
            find(-1) -> -2304000
            find(1) -> 2304000
            find(2) -> 36
            begin(3, 2, 1, 6) -> 6
            run(100)
            output(0, -1, 0) -> 2
            find(-64000) -> -128000
            find(64000) -> 128000
            """);
        script.play("a reducer begins with the first value", """
            chunk(0xF7, 1, 1) -> 0               // -9 alone
            begin(2, 0, 1, 2)
            run(100)
            find(0) -> -9
            begin(2, 1, 1, 2)
            run(100)
            find(0) -> 1
            begin(2, 2, 1, 2)
            run(100)
            find(0) -> -9
            begin(2, 3, 1, 2)
            run(100)
            find(0) -> -9
            begin(2, 4, 1, 2)
            run(100)
            find(0) -> -9
            """);
        script.play("CHAIN wraps", """
            chunk(0x7E7E7E7E7E7E, 6, 1000) -> 0  // 126000 six times
            begin(2, 3, 1, 2)
            run(100)
            find(0) -> -516156928
            """);
        script.play("QUOTIENT: towards zero, by each further one", """
            chunk(0x02F9, 2, 1) -> 0             // -7, 2: key 2
            chunk(0x040764, 3, 1) -> 1           // 100, 7, 4: key 1
            chunk(0x00, 1, 1) -> 2               // alone: no division
            begin(2, 4, 1, 2) -> 3
            run(100)
            find(2) -> -3
            find(1) -> 3
            find(0) -> 0
            chunk(0x03, 1, 1) -> 3               // 0 / 3
            begin(2, 4, 1, 2) -> 4
            run(100)
            find(0) -> 0
            chunk(0x00, 1, 1) -> 4               // 0 / 3 / 0
            begin(2, 4, 1, 2) -> 5
            run(100) -> fails
            """);
        script.play("QUOTIENT by 1 and by -1", """
            chunk(0xFF080107, 4, 1) -> 0         // key 1: 7, 1; key 2: 8, -1
            begin(2, 4, 1, 2) -> 1
            run(100)
            find(1) -> 7
            find(2) -> -8
            """);
        script.end();
    }
}
