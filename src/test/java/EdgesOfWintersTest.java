import java.math.BigInteger;

/** Terms 4 and promises 21 to 29: each sentence that names a bound, on both sides of it. */
public final class EdgesOfWintersTest {
    private static final int BAD = -1, NO = -2, FULL = -3, NONE = -4;
    private static final String CHAIN = "t1999;t2999;t3999;t4999;t5999;t6999;t7999;t8999;t9999;";

    public static void main(String[] args) {
        see();
        from();
        rows();
        rains();
        rainsNumbers();
        winterDraws();
        winterAnswers();
        winterNumbers();
        keep();
        back();
        count();
        Edges.end();
    }

    private static void see() {
        Edges.edge("SEEN (6 at most); see: FULL", () -> {
            Fires x = new Fires();
            for (int n = 1; n <= 6; n++) {
                x.due(n - 1, "count 6").due(n, "see " + n % 4);
            }
            x.leaves(FULL, "see 0", "see 1", "see 2", "see 3").due(FULL, "see 0", "see 0").due(6, "count 6", "forget");
            for (int n = 1; n <= 6; n++) {
                x.due(n, "see 3");
            }
            x.due(FULL, "see 3");
        });
        Edges.edge("see: WOOD 0 to 3; BAD", () -> {
            Fires x = new Fires().leaves(BAD, Fires.with("see #", Fires.outside(0, 3))).due(1, "see 0").due(2, "see 3");
            x.leaves(BAD, "see 4", "see -1").due(2, "count 6");
        });
        Edges.edge("see: BAD ahead of FULL", () -> {
            Fires x = new Fires().does("see 0", "see 0", "see 0", "see 0", "see 0", "see 0");
            x.leaves(BAD, Fires.with("see #", Fires.outside(0, 3)));
        });
        Edges.edge("forget: nothing is SEEN: how many were", () -> {
            new Fires().leaves(0, "forget");
            Fires x = new Fires().does("see 1", "see 2", "see 3").due(3, "forget").due(0, "count 6", "forget")
                    .due(1, "see 0");
            x.due(1, "forget").does("put 0 0", "see 2", "forget").due(1, "count 7");
        });
        Edges.edge("see: it is SEEN alone: nothing is PUT ON", () -> {
            Fires x = new Fires().does("see 0").stands(0, 9, 0, 3, 2, 1, 2, NONE, 0).due(0, "count 7");
            x.does("pass 24").due(2, "see 1");
        });
    }

    private static void from() {
        Edges.edge("FROM: by nothing SEEN: the LINE at which it is, 0 to 8", () -> {
            for (int l = 0; l <= 8; l++) {
                Fires.laid(CHAIN + "c" + l + ",1,0,0,0,0;").leaves(1 << l, "from 0");
            }
        });
        Edges.edge("FROM: by all that is SEEN, none to 6", () -> {
            Fires x = Fires.laid(CHAIN + "c6,1,0,0,0,0;c8,1,0,0,0,0;c5,1,0,0,0,0;c0,1,0,0,0,0;");
            for (int n = 0; n <= 6; n++) {
                int lastOnes = 0x1ff & ~((1 << 8 - n) - 1);
                x.due(1 << 6 - n, "from 0").due(lastOnes, "from 1").due(n > 5 ? 0 : 1 << 5 - n, "from 2");
                x.due(n == 0 ? 1 : 0, "from 3").due(n < 6 ? n + 1 : FULL, "see 0");
            }
            x.due(FULL, "see 1").due(1, "from 0").does("forget").due(64, "from 0");
        });
        Edges.edge("FROM: one behind the other, the first one first", () -> {
            String tale = "t1929;t9929;t9999;t9999;";
            Fires x = Fires.laid("t1999;t9299;t3999;t9999;c3,9,0,0,0,0;c2,9,0,0,0,0;").does("see 0", "see 1");
            x.due(8 + 4, "from 0").due(2 + 1, "from 1").does("forget", "see 1", "see 0").due(8 + 4 + 2, "from 0")
                    .due(0, "from 1");
            Fires.laid(tale + "c2,9,0,0,0,0;").does("see 0", "see 2").due(7, "from 0");
        });
        Edges.edge("FROM: none: it stays; all nine (511) and none (0)", () -> {
            Fires.laid("t0999;".repeat(9) + "c0,9,0,0,0,0;c1,9,0,0,0,0;").does("see 0").due(511, "from 0")
                    .due(0, "from 1")
                    .does("forget", "see 1", "see 2", "see 3").due(1, "from 0").due(2, "from 1");
        });
        Edges.edge("FROM: at the LINE at which it is now", () -> {
            Fires x = Fires.laid(CHAIN + "c2,1,9,0,0,0;").does("see 0").due(2, "from 0").does("put 0 0")
                    .due(4, "from 0");
            x.does("undo").due(2, "from 0");
        });
        Edges.edge("from: NO: OUT; BAD ahead of it", () -> {
            for (int n = 1; n <= 4; n++) {
                Fires x = Fires.laid("t9999;" + "c0,1,9,9,9,9;".repeat(n)).due(1, "from 0", "from " + (n - 1))
                        .does("pass 1");
                x.leaves(NO, "from 0", "from " + (n - 1)).leaves(BAD, "from " + n, "from -1");
                x.due(BAD, Fires.with("from #", Fires.outside(0, n - 1)));
            }
        });
    }

    private static void rows() {
        Edges.edge("ROWS: of none: 1 from its own LINE, 0 from another one", () -> {
            for (int l = 0; l <= 8; l++) {
                Fires x = Fires.laid(CHAIN + "c" + l + ",1,0,0,0,0;");
                for (int start = 0; start <= 8; start++) {
                    x.due(start == l ? 1 : 0, "rows 0 " + start + " 0");
                }
            }
        });
        Edges.edge("ROWS: of n (0 to 8): all 4 by 4 .. of them, and none", () -> {
            Fires x = Fires.laid("t9999;t0000;c0,1,0,0,0,0;c1,1,0,0,0,0;");
            for (int n = 0; n <= 8; n++) {
                x.due(1 << 2 * n, "rows 0 0 " + n).due(n == 0 ? 0 : 1 << 2 * n, "rows 0 1 " + n);
                x.due(n == 0 ? 1 : 0, "rows 1 1 " + n).due(0, "rows 1 0 " + n);
            }
            x.leaves(65536, "rows 0 0 8", "rows 0 1 8");
        });
        Edges.edge("ROWS: eight WOODS for eight LINES, seven are too few", () -> {
            Fires x = Fires.laid(CHAIN + "c8,1,0,0,0,0;c0,1,0,0,0,0;").due(1, "rows 0 0 8").due(0, "rows 0 0 7");
            x.due(1 + 8 * 3, "rows 0 1 8").due(1, "rows 0 1 7").due(6561, "rows 1 0 8").due(65536, "rows 0 8 8");
        });
        Edges.edge("ROWS: from that LINE to the one at which it is now, not the other way", () -> {
            Fires x = Fires.laid("t1199;t9999;c0,9,1,0,0,0;").due(2, "rows 0 0 1").due(0, "rows 0 1 1").does("put 0 0");
            x.due(2, "rows 0 0 1").due(4, "rows 0 1 1").due(12, "rows 0 0 2");
        });
        Edges.edge("rows: a LINE, n (0 to 8); BAD", () -> {
            for (int n = 1; n <= 9; n++) {
                Fires x = Fires.laid("t9999;".repeat(n) + "c0,9,1,1,1,1;")
                        .leaves(n == 1 ? 1 : 0, "rows 0 " + (n - 1) + " 0");
                x.leaves(BAD, "rows 0 " + n + " 0", "rows 0 -1 8")
                        .due(BAD, Fires.with("rows 0 # 1", Fires.outside(0, n - 1)));
                x.leaves(BAD, "rows 0 0 9", "rows 0 0 -1").due(BAD, Fires.with("rows 0 0 #", Fires.outside(0, 8)));
            }
        });
        Edges.edge("rows: NO: OUT; BAD ahead of it", () -> {
            Fires x = Fires.laid("t9999;c0,1,0,0,0,0;c0,2,0,0,0,0;").does("pass 1")
                    .leaves(NO, "rows 0 0 0", "rows 0 0 8");
            x.leaves(BAD, "rows 0 1 0", "rows 0 0 9", "rows 0 -1 0", "rows 0 0 -1", "rows 2 0 0", "rows -1 0 0");
            x.due(1, "rows 1 0 0").due(BAD, Fires.with("rows # 0 0", Fires.outside(0, 1)));
        });
    }

    private static void chance(Fires x, String call, int above, int below) {
        x.due(above, call + " 0").due(below, call + " 1");
    }

    private static void rains() {
        Edges.edge("RAINS: by x (0 to 10) of ten, in lowest terms", () -> {
            Fires x = Fires.laid("t9999;c0,3,0,0,0,0;c0,4,0,0,0,0;");
            int[][] want = {{1, 1}, {9, 10}, {4, 5}, {7, 10}, {3, 5}, {1, 2}, {2, 5}, {3, 10}, {1, 5}, {1, 10}, {0, 1}};
            for (int tenth = 0; tenth <= 10; tenth++) {
                chance(x, "rains 0 1 " + tenth, want[tenth][0], want[tenth][1]);
                chance(x, "rains 1 1 " + tenth, 1, 1);
                chance(x, "rains 0 3 " + tenth, 0, 1);
            }
        });
        Edges.edge("RAINS: in each of n (0 to 8) HOURS", () -> {
            Fires x = Fires.laid("t9999;c0,9,0,0,0,0;c0,8,0,0,0,0;c0,20,0,0,0,0;");
            chance(x, "rains 0 0 9", 1, 1);
            chance(x, "rains 0 8 9", 1, 100000000);
            chance(x, "rains 0 8 1", 43046721, 100000000);
            chance(x, "rains 0 8 5", 1, 256);
            chance(x, "rains 0 7 9", 1, 10000000);
            chance(x, "rains 1 8 0", 0, 1);
            chance(x, "rains 0 8 0", 1, 1);
            chance(x, "rains 0 8 10", 0, 1);
            chance(x, "rains 2 6 10", 1, 1);
            chance(x, "rains 2 7 10", 0, 1);
        });
        Edges.edge("RAINS: of each heat (1 to 20), behind none to 8 HOURS, by 0 and by 10 of ten", () -> {
            for (int hot = 1; hot <= 20; hot++) {
                Fires x = Fires.laid("t9999;c0," + hot + ",0,0,0,0;");
                for (int n = 0; n <= 8; n++) {
                    chance(x, "rains 0 " + n + " 0", hot > n ? 1 : 0, 1);
                    chance(x, "rains 0 " + n + " 10", hot > 3 * n ? 1 : 0, 1);
                }
                chance(x, "rains 0 0 5", 1, 1);
            }
        });
        Edges.edge("RAINS: by 2 more", () -> {
            chance(Fires.laid("t9999;c0,4,0,0,0,0;"), "rains 0 1 10", 1, 1);
            chance(Fires.laid("t9999;c0,3,0,0,0,0;"), "rains 0 1 10", 0, 1);
            chance(Fires.laid("t9999;r3;c0,7,0,0,0,0;"), "rains 0 1 10", 1, 1);
            chance(Fires.laid("t9999;r3;c0,6,0,0,0,0;"), "rains 0 1 10", 0, 1);
        });
        Edges.edge("RAINS: IN behind them: OUT in between is OUT", () -> {
            Fires x = Fires.laid("t9999;r1;r0;c0,3,0,0,0,0;c0,5,0,0,0,0;c0,7,0,0,0,0;");
            chance(x, "rains 0 1 5", 1, 2);
            chance(x, "rains 0 2 5", 0, 1);
            chance(x, "rains 1 2 5", 1, 4);
            chance(x, "rains 2 2 5", 3, 4);
            chance(x, "rains 2 3 5", 1, 8);
        });
        Edges.edge("RAINS: by the last LOG (for a GREEN one the RAIN does not count)", () -> {
            Fires x = Fires.laid("t9999;r3;c0,8,0,0,0,1;c0,7,0,0,0,1;c0,1,0,1,0,0;c0,2,0,1,0,0;");
            x.does("put 0 3", "put 1 3", "put 2 1", "put 3 1");
            chance(x, "rains 0 8 10", 1, 1);
            chance(x, "rains 1 8 0", 0, 1);
            chance(x, "rains 2 1 3", 7, 10);
            chance(x, "rains 3 1 10", 1, 1);
        });
        Edges.edge("RAINS: from the hour that it is, round the row of rain", () -> {
            Fires x = Fires.laid("t9999;r0;r0;r3;c0,9,0,0,0,0;").does("pass 1");
            chance(x, "rains 0 2 5", 3, 4);
            chance(x, "rains 0 3 5", 1, 8);
            chance(x, "rains 0 4 5", 1, 16);
            x.does("pass 1");
            chance(x, "rains 0 1 10", 1, 1);
            chance(x, "rains 0 2 10", 0, 1);
            chance(x, "rains 0 4 0", 0, 1);
            chance(x, "rains 0 3 0", 1, 1);
        });
    }

    private static void rainsNumbers() {
        Edges.edge("RAINS of a COMPANY that is OUT: 0 of 1, behind none, too", () -> {
            Fires x = Fires.laid("t9999;c0,1,9,9,9,9;").does("pass 1").leaves(0, "rains 0 0 0 0", "rains 0 8 5 0");
            x.leaves(1, "rains 0 0 0 1", "rains 0 8 5 1", "rains 0 0 10 1");
        });
        Edges.edge("rains: n (0 to 8), x (0 to 10), above (part = 0), below (1); BAD", () -> {
            for (int n = 1; n <= 4; n++) {
                Fires x = Fires.laid("t9999;" + "c0,9,0,0,0,0;".repeat(n)).leaves(1, "rains 0 0 0 0", "rains 0 8 0 1");
                x.due(1, "rains " + (n - 1) + " 0 10 1").leaves(BAD, "rains " + n + " 0 0 0", "rains -1 0 0 0");
                x.leaves(BAD, "rains 0 9 0 0", "rains 0 -1 0 0", "rains 0 0 11 0", "rains 0 0 -1 0");
                x.leaves(BAD, "rains 0 0 0 2", "rains 0 0 0 -1")
                        .due(BAD, Fires.with("rains # 1 1 1", Fires.outside(0, n - 1)));
                x.due(BAD, Fires.with("rains 0 # 1 1", Fires.outside(0, 8)));
                x.due(BAD, Fires.with("rains 0 1 # 1", Fires.outside(0, 10)));
                x.due(BAD, Fires.with("rains 0 1 1 #", Fires.outside(0, 1)));
            }
        });
    }

    private static int draw(int z, int k) {
        BigInteger x = BigInteger.valueOf(7919L * z + 6151L * k + 1);
        return x.multiply(x).mod(BigInteger.valueOf(65521)).intValueExact();
    }

    /** A z whose first draw is of the kind, by 8 and by 64 modulo the numbers being those. */
    private static int drawn(int kind, int modulo8, int by8, int modulo64, int by64) {
        for (int z = 9999; z >= 0; z--) {
            int draw = draw(z, 0);
            if (draw % 8 == kind && draw / 8 % modulo8 == by8 && draw / 64 % modulo64 == by64) {
                return z;
            }
        }
        throw new IllegalStateException("no such draw");
    }

    private static String companies(int n, int but, String company, String other) {
        StringBuilder text = new StringBuilder();
        for (int c = 0; c < n; c++) {
            text.append(c == but ? company : other);
        }
        return text.toString();
    }

    private static void winterDraws() {
        Edges.edge("if DRAW modulo 8 is 0 to 4, COMPANY (DRAW by 8, cut) PUTS ON WOOD (DRAW by 64, cut) modulo 4", () -> {
            for (int kind = 0; kind <= 4; kind++) {
                for (int n = 1; n <= 4; n++) {
                    for (int c = 0; c < n; c++) {
                        for (int wood = 0; wood < 4; wood++) {
                            putsOn(drawn(kind, n, c, 4, wood), n, c, wood);
                        }
                    }
                }
            }
        });
        Edges.edge("if 5, that COMPANY's FIRE is LIT from that of COMPANY (DRAW by 64, cut) modulo as many", () -> {
            for (int n = 1; n <= 4; n++) {
                for (int c = 0; c < n; c++) {
                    for (int from = 0; from < n; from++) {
                        lights(drawn(5, n, c, n, from), n, c, from);
                    }
                }
            }
        });
        Edges.edge("if 6 or 7, an HOUR goes by", () -> {
            for (int kind = 0; kind <= 7; kind++) {
                int z = drawn(kind, 2, 1, 4, 2);
                Fires.laid("t0000;c0,1,9,9,0,9;c0,1,9,9,0,9;").due(kind >= 6 ? 0 : 2, "winter " + z + " 1 0");
                Fires rain = Fires.laid("t0000;r0;r2;c0,9,0,0,0,0;c0,4,0,0,0,0;").does("pass 1");
                rain.due(kind >= 6 ? 1 : 2, "winter " + z + " 1 0").due(0, "winter " + z + " 1 1");
                Fires dry = Fires.laid("t0000;r2;r0;c0,9,0,0,0,0;c0,5,0,0,0,0;").does("pass 1");
                dry.due(2, "winter " + z + " 1 0");
            }
        });
        Edges.edge("DRAW being (x times x) modulo 65521, x 7919 z, 6151 k and 1 together", () -> {
            for (int z = 0; z <= 9999; z += 101) {
                firstHours(z);
            }
            firstHours(1);
            firstHours(9998);
        });
    }

    /** Only that company with only that wood can put on: a line is told. All but that: none is told. */
    private static void putsOn(int z, int n, int c, int wood) {
        StringBuilder has = new StringBuilder("c0,3,0,0,0,0;");
        has.setCharAt(5 + 2 * wood, '1');
        StringBuilder lacks = new StringBuilder("c0,3,1,1,1,1;");
        lacks.setCharAt(5 + 2 * wood, '0');
        Fires one = Fires.laid("t0000;" + companies(n, c, has.toString(), "c0,3,0,0,0,0;"));
        one.due(1, "winter " + z + " 1 1").due(n, "winter " + z + " 1 0");
        Fires others = Fires.laid("t0000;" + companies(n, c, lacks.toString(), "c0,3,1,1,1,1;"));
        others.due(0, "winter " + z + " 1 1").due(n, "winter " + z + " 1 0");
    }

    /** Only that company is out and only the other one hot enough; then it is one too little hot. */
    private static void lights(int z, int n, int c, int from) {
        for (int hot = 4; hot <= 5; hot++) {
            StringBuilder text = new StringBuilder("t0000;");
            for (int i = 0; i < n; i++) {
                text.append("c0,").append(i == c ? 1 : i == from ? hot : 2).append(",1,1,1,1;");
            }
            int want = c == from || hot == 4 ? n - 1 : n;
            Fires x = Fires.laid(text.toString()).does("pass 1").due(want, "winter " + z + " 1 0")
                    .due(0, "winter " + z + " 1 1");
            x.due(n - 1, "count 3").due(0, "company " + c + " 0");
        }
    }

    /** A fire burns by hours alone: it is out behind as many draws of 6 or 7 as it is hot. */
    private static void firstHours(int z) {
        int hours = 0;
        for (int k = 0; k < 60; k++) {
            if (draw(z, k) % 8 >= 6) {
                hours++;
                if (hours <= 20) {
                    Fires x = Fires.laid("t0000;c0," + hours + ",0,0,0,0;")
                            .due(0, "winter " + z + " " + (k + 1) + " 0");
                    if (k > 0) {
                        x.due(1, "winter " + z + " " + k + " 0");
                    }
                }
            }
        }
    }

    private static void winterAnswers() {
        Edges.edge("A WINTER: each if it can be: no LOG, OUT, IN already, itself", () -> {
            Fires x = Fires.laid("t0000;c0,1,0,0,0,0;c0,1,9,9,9,9;").does("pass 1");
            for (int z = 0; z < 60; z++) {
                x.due(0, "winter " + z + " 60 0", "winter " + z + " 60 1");
            }
        });
        Edges.edge("A WINTER: a LOG by which a FIRE is OUT: none TOLD", () -> {
            int z = drawn(2, 1, 0, 4, 2);
            Fires.laid("t0000;c0,2,0,0,1,0;").due(0, "winter " + z + " 1 0", "winter " + z + " 1 1");
            Fires.laid("t0000;c0,3,0,0,1,0;").due(1, "winter " + z + " 1 0", "winter " + z + " 1 1");
        });
        Edges.edge("A WINTER: how many LINES were TOLD in it, not ahead of it", () -> {
            int z = drawn(0, 1, 0, 4, 3);
            Fires x = Fires.laid("t0000;c0,3,9,9,9,2;").due(1, "winter " + z + " 1 1")
                    .does("put 0 0", "put 0 1", "put 0 3");
            x.due(1, "winter " + z + " 1 1").due(3, "count 5").does("put 0 3").due(0, "winter " + z + " 1 1");
            Fires.laid("t9999;c0,3,9,9,9,2;").due(0, "winter " + z + " 1 1");
        });
        Edges.edge("A WINTER: how many LINES were TOLD: at a FIRE that is OUT then, too", () -> {
            for (int z = 0; z <= 9999; z++) {
                boolean puts = draw(z, 0) % 8 <= 4 && draw(z, 0) / 64 % 4 == 3;
                if (puts && draw(z, 1) % 8 >= 6 && draw(z, 2) % 8 >= 6) {
                    Fires x = Fires.laid("t0000;c0,1,0,0,0,1;").due(0, "winter " + z + " 3 0")
                            .due(1, "winter " + z + " 3 1");
                    x.due(1, "winter " + z + " 2 0", "winter " + z + " 1 1");
                    return;
                }
            }
            Edges.wrong("no such draws");
        });
        Edges.edge("A WINTER: nothing changes by it", () -> {
            Fires x = Fires.laid("t1111;t0000;r1;r0;c0,9,9,9,9,9;c1,20,9,9,9,9;c0,1,9,9,9,9;")
                    .does("put 0 0", "pass 2", "keep");
            int in = x.again().asks("winter 77 60 0");
            int told = x.again().asks("winter 77 60 1");
            x.leaves(in, "winter 77 60 0").leaves(told, "winter 77 60 1").due(in, "winter 77 60 0", "winter 77 60 0");
            if (told < 1) {
                Edges.wrong("this winter tells nothing");
            }
        });
        Edges.edge("A WINTER: from now on: as things stand, by the hour that it is", () -> {
            int z = drawn(6, 1, 0, 1, 0);
            Fires x = Fires.laid("t0000;r0;r3;c0,6,0,0,0,0;").due(1, "winter " + z + " 1 0").does("pass 1");
            x.due(1, "winter " + z + " 1 0").does("pass 1").due(0, "winter " + z + " 1 0").does("undo", "undo");
            x.due(1, "winter " + z + " 1 0").does("pass 1").due(5, "company 0 0");
            Fires.laid("t0000;r0;r3;c0,5,0,0,0,0;").does("pass 1").due(0, "winter " + z + " 1 0");
        });
    }

    private static void winterNumbers() {
        Edges.edge("winter: z (0 to 9999), n (1 to 60), FIRES (what = 0), LINES (1); BAD", () -> {
            Fires x = new Fires().leaves(3, "winter 0 1 0", "winter 9999 1 0").leaves(1, "winter 5 60 0");
            x.leaves(12, "winter 5 60 1")
                    .leaves(BAD, "winter -1 1 0", "winter 10000 1 0", "winter 0 0 0", "winter 0 61 0");
            x.leaves(BAD, "winter 0 1 -1", "winter 0 1 2").due(BAD, Fires.with("winter # 1 0", Fires.outside(0, 9999)));
            x.due(BAD, Fires.with("winter 0 # 0", Fires.outside(1, 60)))
                    .due(BAD, Fires.with("winter 0 1 #", Fires.outside(0, 1)));
        });
    }

    private static void keep() {
        Edges.edge("KEPT: 2 at most; keep: FULL", () -> {
            Fires x = new Fires().due(1, "keep").due(1, "count 8").due(2, "keep").due(2, "count 8")
                    .leaves(FULL, "keep");
            x.does("put 0 0").leaves(FULL, "keep").due(1, "back").due(2, "keep").leaves(FULL, "keep");
        });
        Edges.edge("KEPT is all as it stands; a refused keep KEEPS nothing", () -> {
            Fires x = Fires.laid("t1111;t0000;r2;c0,20,3,1,1,1;c1,2,1,1,1,1;").does("put 0 1", "pass 1", "hand 0 1 0");
            Fires first = x.again().does("keep", "back");
            x.does("keep", "light 1 0", "put 1 3", "pass 1", "keep", "join 0 1").due(FULL, "keep").does("pass 24");
            x.due(FULL, "keep").due(1, "back").stands(0, 11, 1, 2, 0, 1, 1, 1, 1).stands(1, 3, 0, 2, 1, 1, 0, 3, 1);
            x.due(2, "count 2").due(0, "back").stands(0, 16, 1, 2, 0, 1, 1, 1, 1).due(1, "count 2");
            x.stands(1, 0, NONE, 2, 1, 1, 1, NONE, 0);
            Fires.same(x, first);
        });
        Edges.edge("keep: what can be UNDONE stays so", () ->
                new Fires().does("put 0 0", "pass 1", "keep", "keep").due(2, "count 7").due(1, "undo").due(0, "undo")
                        .due(2, "count 8"));
    }

    private static void back() {
        Edges.edge("back: NO: nothing is KEPT", () -> {
            new Fires().leaves(NO, "back").does("put 0 0", "keep").due(0, "back").leaves(NO, "back");
            new Fires().does("put 0 0").leaves(NO, "back").due(0, "undo");
        });
        Edges.edge("back: as KEPT last (it is KEPT no more then): how many are left", () -> {
            Fires x = new Fires().does("pass 1", "keep", "pass 1", "keep", "pass 1").due(1, "back").due(2, "count 2");
            x.due(1, "count 8").does("pass 5", "keep").due(1, "back").due(7, "count 2").due(0, "back")
                    .due(1, "count 2");
            x.due(0, "count 8").leaves(NO, "back");
            for (int round = 0; round < 9; round++) {
                x.does("pass 1").due(1, "keep").does("pass 1").due(2, "keep").does("pass 1").due(1, "back");
                x.due(3 + round, "count 2").due(0, "back").due(2 + round, "count 2");
            }
        });
        Edges.edge("back: nothing is UNDONE then", () -> {
            Fires x = new Fires().does("put 0 0", "keep", "pass 1", "pass 1").due(3, "count 7")
                    .due(0, "back", "count 7");
            x.leaves(NO, "undo").does("pass 2").due(1, "count 7").due(0, "undo").due(0, "count 2").leaves(NO, "undo");
            Fires full = new Fires().does("keep");
            for (int i = 0; i < 11; i++) {
                full.does("pass 1");
            }
            full.due(0, "back", "count 7").leaves(NO, "undo");
            for (int i = 1; i <= 9; i++) {
                full.does("pass 1").due(Math.min(8, i), "count 7");
            }
            for (int i = 7; i >= 0; i--) {
                full.due(i, "undo").due(i + 1, "count 2");
            }
            full.leaves(NO, "undo");
        });
        Edges.edge("what is SEEN and THE TEXT stay by back()", () -> {
            Fires x = new Fires().does("see 1", "write 114", "keep", "see 2", "write 49", "keep", "see 3", "write 59");
            x.due(1, "back").due(3, "count 6", "count 9").due(NONE, "fault").due(0, "back")
                    .due(3, "count 6", "count 9");
            Fires wiped = new Fires().does("see 1", "write 114", "keep", "forget", "wipe", "back")
                    .due(0, "count 6", "count 9");
            wiped.due(1, "from 0").due(NONE, "fault");
        });
        Edges.edge("back: a refused one changes nothing, nor what can be UNDONE", () ->
                new Fires().does("put 0 0", "pass 1").due(NO, "back").due(2, "count 7").due(1, "undo")
                        .due(13, "company 0 0"));
    }

    private static void count() {
        Edges.edge("count: 0 to 9; BAD", () -> {
            Fires x = new Fires().leaves(BAD, Fires.with("count #", Fires.outside(0, 9)));
            x.leaves(6, "count 0").leaves(0, "count 9");
        });
        Edges.edge("count: 0 LINES (1 to 9), 1 COMPANIES (1 to 4)", () -> {
            for (int lines = 1; lines <= 9; lines++) {
                for (int n = 1; n <= 4; n++) {
                    Fires x = Fires.laid("t9999;".repeat(lines) + "c0,1,0,0,0,0;".repeat(n)).due(lines, "count 0");
                    x.due(n, "count 1", "count 3").does("pass 1").due(n, "count 1").due(0, "count 3");
                }
            }
        });
        Edges.edge("count: 2 hours gone by, 3 FIRES that are IN", () -> {
            Fires x = Fires.laid("t9999;c0,1,0,0,0,0;c0,2,0,0,0,0;c0,3,0,0,0,0;c0,9,0,0,0,0;").due(4, "count 3")
                    .due(0, "count 2");
            x.does("pass 1").due(3, "count 3").due(1, "count 2").does("pass 1").due(2, "count 3").does("pass 1");
            x.due(1, "count 3").due(3, "count 2").does("light 0 3").due(2, "count 3").does("join 3 0")
                    .due(1, "count 3");
            x.does("pass 24").due(0, "count 3").due(27, "count 2").does("undo").due(1, "count 3").due(3, "count 2");
        });
        Edges.edge("count: 4 LOGS of all, 0 to 144, of FIRES that are OUT, too", () -> {
            Fires.laid("t9999;c0,1,0,0,0,0;").due(0, "count 4");
            Fires x = Fires.laid("t9999;" + "c0,9,9,9,9,9;".repeat(4)).due(144, "count 4").does("put 3 2")
                    .due(143, "count 4");
            x.does("hand 0 1 1", "join 0 3", "pass 24").due(143, "count 4");
        });
        Edges.edge("count: 5 LINES TOLD at all FIRES, those that are OUT, too", () -> {
            Fires x = Fires.laid("t0009;c0,9,9,9,9,9;c0,9,9,9,9,9;").due(0, "count 5")
                    .does("put 0 0", "put 0 3", "put 1 1");
            x.due(2, "count 5").does("pass 24").due(2, "count 5").does("undo", "undo").due(1, "count 5");
        });
        Edges.edge("count: 6 SEEN (to 6), 7 that can be UNDONE (to 8), 8 KEPT (to 2), 9 letters (to 200)", () -> {
            Fires x = new Fires();
            for (int i = 0; i <= 9; i++) {
                x.due(Math.min(6, i), "count 6").due(Math.min(8, i), "count 7").due(Math.min(2, i), "count 8")
                        .due(i, "count 9");
                x.asks("see 0");
                x.asks("pass 1");
                x.asks("keep");
                x.asks("write 32");
            }
            for (int i = 10; i <= 200; i++) {
                x.due(i, "count 9").due(i < 200 ? i + 1 : FULL, "write 32");
            }
        });
    }
}
