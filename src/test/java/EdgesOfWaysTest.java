/** Terms 3 and promises 15 to 20: each sentence that names a bound, on both sides of it. */
public final class EdgesOfWaysTest {
    private static final int BAD = -1, NO = -2, NONE = -4;

    public static void main(String[] args) {
        lasts();
        stays();
        staysOrder();
        staysNumbers();
        tell();
        tellNumbers();
        meet();
        meetNumbers();
        can();
        give();
        giveNumbers();
        Edges.end();
    }

    private static Fires one(int hot, String rain, String logs) {
        return Fires.laid("t9999;" + rain + "c0," + hot + "," + logs + ";");
    }

    private static void lasts() {
        Edges.edge("LASTS: behind how many HOURS its FIRE is OUT first, nothing being PUT ON", () -> {
            for (int rain = 0; rain <= 3; rain++) {
                for (int hot = 1; hot <= 20; hot++) {
                    int want = (hot + rain) / (rain + 1);
                    Fires x = one(hot, "r" + rain + ";", "9,9,9,9").due(want, "lasts 0");
                    if (want > 1) {
                        x.due(1, "pass " + (want - 1)).due(1, "lasts 0");
                    }
                    x.due(0, "pass 1").due(0, "lasts 0");
                }
            }
        });
        Edges.edge("LASTS: by its last LOG (PINE: 1 more, GREEN: no RAIN)", () -> {
            for (int hot = 1; hot <= 14; hot++) {
                one(hot, "r1;", "0,1,0,0").does("put 0 1").due((hot + 6 + 2) / 3, "lasts 0");
                one(hot, "r3;", "0,0,0,1").does("put 0 3").due(hot + 1, "lasts 0");
                one(hot, "r1;", "1,0,0,0").does("put 0 0").due((hot + 4 + 1) / 2, "lasts 0");
            }
        });
        Edges.edge("LASTS: from the hour that it is, round the row of rain", () -> {
            Fires x = one(20, "r3;r0;r0;", "0,0,0,0").due(10, "lasts 0").does("pass 1").due(9, "lasts 0")
                    .does("pass 1");
            x.due(8, "lasts 0").does("pass 1").due(7, "lasts 0").does("pass 6").due(1, "lasts 0");
            Fires late = one(5, "r0;r0;r3;", "0,0,0,0").due(3, "lasts 0").does("pass 2").due(1, "lasts 0");
            late.due(3, "company 0 0");
        });
        Edges.edge("LASTS (0 to 60; NONE: IN behind 60): the longest that there is, 20 hot without RAIN", () -> {
            one(20, "", "0,0,0,0").due(20, "lasts 0");
            one(19, "r3;", "0,0,0,1").does("put 0 3").due(20, "lasts 0");
        });
        Edges.edge("lasts: 0: OUT", () -> {
            one(1, "r3;", "9,9,9,9").due(1, "lasts 0").does("pass 1").leaves(0, "lasts 0");
            one(2, "", "0,0,1,0").does("put 0 2").due(0, "lasts 0");
            Fires.laid("t9999;c0,9,0,0,0,0;c0,9,0,0,0,0;").does("join 0 1").due(0, "lasts 1").due(18, "lasts 0");
        });
        Edges.edge("lasts: BAD", () -> {
            for (int n = 1; n <= 4; n++) {
                Fires x = Fires.laid("t9999;" + "c0,7,1,1,1,1;".repeat(n)).leaves(7, "lasts 0", "lasts " + (n - 1));
                x.leaves(BAD, "lasts " + n, "lasts -1").due(BAD, Fires.with("lasts #", Fires.outside(0, n - 1)));
            }
        });
    }

    private static void stays() {
        Edges.edge("KEEP: IN behind n (1 to 6) HOURS: no LOG at all, or one", () -> {
            for (int n = 1; n <= 6; n++) {
                one(n + 1, "", "0,0,0,0").due(0, "stays 0 " + n + " -1").due(NONE, "stays 0 " + n + " 0");
                one(n, "", "0,0,0,0").due(NONE, "stays 0 " + n + " -1", "stays 0 " + n + " 0");
                one(n, "", "0,0,0,1").due(1, "stays 0 " + n + " -1").due(3, "stays 0 " + n + " 0");
                one(n, "", "0,0,9,0").due(NONE, "stays 0 " + n + " -1");
            }
        });
        Edges.edge("KEEP: a LOG ahead of each HOUR, of all n, and one that lacks", () -> {
            one(1, "r3;", "9,0,0,0").way("stays 0 6", 6, 0, 0, 0, 0, 0, 0).way("stays 0 1", 1, 0);
            one(1, "r3;", "6,0,0,0").way("stays 0 6", 6, 0, 0, 0, 0, 0, 0);
            one(1, "r3;", "5,0,0,0").way("stays 0 6", NONE).way("stays 0 5", 5, 0, 0, 0, 0, 0);
            one(1, "r3;", "1,0,0,0").way("stays 0 1", 1, 0).way("stays 0 2", NONE);
            one(1, "r3;", "0,0,0,0").way("stays 0 1", NONE);
        });
        Edges.edge("KEEP: IN behind them (and always ahead)", () -> {
            one(1, "r3;", "0,1,0,0").way("stays 0 1", 1, 1).way("stays 0 2", NONE);
            one(2, "r0;r1;r1;", "0,1,0,0").way("stays 0 3", 1, NONE, 1, NONE);
            one(1, "r0;r3;", "0,1,0,0").way("stays 0 2", NONE);
            one(2, "", "0,0,1,0").way("stays 0 1", 0, NONE).way("stays 0 2", NONE);
            Fires wet = one(2, "", "0,1,9,0").does("put 0 1").due(8, "company 0 0");
            wet.way("stays 0 3", 0, NONE, NONE, NONE).way("stays 0 4", 1, 2, NONE, NONE, NONE).way("stays 0 6", NONE);
            Fires more = one(3, "", "0,1,9,0").does("put 0 1").way("stays 0 6", 1, 2, NONE, NONE, NONE, NONE, NONE);
            more.due(9, "company 0 0");
        });
        Edges.edge("KEEP: 20 hot at most, so that a LOG may come too early", () -> {
            one(20, "r3;", "1,0,0,0").way("stays 0 4", 0, NONE, NONE, NONE, NONE)
                    .way("stays 0 5", 1, NONE, 0, NONE, NONE, NONE).way("stays 0 6", NONE);
            one(20, "r3;", "0,0,0,1").way("stays 0 6", 1, 3, NONE, NONE, NONE, NONE, NONE);
            one(16, "r3;", "1,0,0,0").way("stays 0 4", 1, 0, NONE, NONE, NONE);
        });
        Edges.edge("KEEP: one of its LOGS, each once, no other COMPANY's", () -> {
            Fires x = Fires.laid("t9999;r3;c0,1,0,0,0,0;c0,1,9,9,9,9;c0,1,1,0,0,1;").way("stays 0 1", NONE);
            x.way("stays 1 1", 1, 0).way("stays 2 1", 1, 0).way("stays 2 2", 2, 0, 3).way("stays 2 3", NONE);
        });
        Edges.edge("KEEP: by the RAIN of each HOUR from now on", () -> {
            Fires x = one(3, "r0;r1;r3;", "0,0,0,1").way("stays 0 1", 0, NONE).way("stays 0 2", 1, 3, NONE);
            x.does("pass 1").due(2, "company 0 0").way("stays 0 1", 1, 3);
            Fires last = one(20, "r0;r0;r0;r0;r3;", "0,0,0,1").does("pass 4").due(16, "company 0 0");
            last.way("stays 0 1", 0, NONE).does("pass 1").due(12, "company 0 0")
                    .way("stays 0 4", 0, NONE, NONE, NONE, NONE);
            last.way("stays 0 5", 0, NONE, NONE, NONE, NONE, NONE)
                    .way("stays 0 6", 0, NONE, NONE, NONE, NONE, NONE, NONE);
        });
        Edges.edge("KEEP: by the last LOG that is on it", () -> {
            one(1, "", "0,1,0,0").does("put 0 1").way("stays 0 3", 0, NONE, NONE, NONE).way("stays 0 4", NONE);
            one(1, "r3;", "0,0,0,1").does("put 0 3").way("stays 0 1", 0, NONE).way("stays 0 2", NONE);
            Fires lit = Fires.laid("t9999;c0,1,0,1,0,0;c0,20,0,0,0,0;").does("put 0 1", "pass 4", "light 0 1");
            lit.way("stays 0 2", 0, NONE, NONE).way("stays 0 3", NONE);
        });
    }

    private static void staysOrder() {
        Edges.edge("KEEP: of fewest LOGS, whatever comes first", () -> {
            one(2, "r3;", "1,1,0,1").way("stays 0 1", 1, 0).way("stays 0 2", 1, 3, NONE);
            one(2, "r3;", "2,2,2,1").way("stays 0 2", 1, 3, NONE).way("stays 0 3", 2, 0, 3, NONE);
            one(1, "r3;", "2,2,2,1").way("stays 0 2", 2, 0, 0).way("stays 0 3", 2, 1, 3, NONE);
            one(4, "", "9,9,9,9").way("stays 0 3", 0, NONE, NONE, NONE).way("stays 0 4", 1, 0, NONE, NONE, NONE);
        });
        Edges.edge("KEEP: of several the first: WOOD 0 ahead", () -> {
            one(1, "", "1,1,1,1").way("stays 0 1", 1, 0);
            one(1, "", "0,1,1,1").way("stays 0 1", 1, 1);
            one(1, "", "0,0,1,1").way("stays 0 1", 1, 3);
            Fires wetFirst = one(4, "", "0,1,1,1").does("put 0 1").due(10, "company 0 0");
            wetFirst.way("stays 0 5", 1, 2, NONE, NONE, NONE, NONE)
                    .way("stays 0 6", 1, 2, NONE, NONE, NONE, NONE, NONE);
        });
        Edges.edge("KEEP: none behind all WOOD, by the first HOUR, then the second, ..", () -> {
            one(5, "", "0,0,0,1").way("stays 0 5", 1, 3, NONE, NONE, NONE, NONE);
            one(5, "", "0,0,0,2").way("stays 0 6", 2, 3, 3, NONE, NONE, NONE, NONE);
            one(20, "r3;", "1,0,0,1").way("stays 0 5", 1, 3, NONE, NONE, NONE, NONE);
            one(20, "r3;", "1,1,0,0").way("stays 0 6", 2, NONE, 0, NONE, 1, NONE, NONE);
        });
        Edges.edge("KEEP: a LOG ahead of the last HOUR counts as each other one", () -> {
            one(20, "r0;r0;r0;r0;r0;r3;", "1,0,0,0").way("stays 0 6", 0, NONE, NONE, NONE, NONE, NONE, NONE);
            one(20, "r3;r3;r3;r3;r2;r3;", "0,1,0,0").way("stays 0 6", 1, NONE, NONE, NONE, NONE, 1, NONE);
            one(20, "r3;r3;r3;r2;r2;r2;", "0,1,0,0").way("stays 0 6", 1, NONE, NONE, 1, NONE, NONE, NONE);
            one(17, "r3;r3;r3;r3;r3;r3;", "1,1,0,0").way("stays 0 6", 2, NONE, 0, NONE, NONE, 1, NONE);
        });
    }

    private static void staysNumbers() {
        Edges.edge("stays: for n (1 to 6) HOURS; BAD", () -> {
            Fires x = one(9, "", "1,1,1,1").leaves(0, "stays 0 1 -1", "stays 0 6 -1");
            x.leaves(BAD, "stays 0 0 -1", "stays 0 7 -1").due(BAD, Fires.with("stays 0 # -1", Fires.outside(1, 6)));
            x.due(BAD, Fires.with("stays 0 # 0", Fires.outside(1, 6)));
        });
        Edges.edge("stays: how many (k = -1), which ahead of the k-th HOUR (0 first); BAD", () -> {
            Fires x = one(1, "r3;", "9,0,0,0").leaves(6, "stays 0 6 -1").leaves(0, "stays 0 6 0", "stays 0 6 5");
            x.leaves(BAD, "stays 0 6 -2").due(BAD, "stays 0 6 -3", "stays 0 6 " + Integer.MIN_VALUE);
        });
        Edges.edge("stays: NONE: none is PUT ON, there are not so many HOURS, there is no way", () -> {
            Fires x = one(1, "r3;", "2,0,0,0").leaves(0, "stays 0 2 1").leaves(NONE, "stays 0 2 2", "stays 0 1 1");
            x.leaves(NONE, "stays 0 3 -1", "stays 0 3 0", "stays 0 3 9", "stays 0 2 " + Integer.MAX_VALUE);
            one(9, "", "9,9,9,9").leaves(NONE, "stays 0 6 0", "stays 0 6 5", "stays 0 6 6");
        });
        Edges.edge("stays: NO: OUT; BAD ahead of it", () -> {
            Fires x = Fires.laid("t9999;c0,1,9,9,9,9;c0,9,9,9,9,9;").does("pass 1")
                    .leaves(NO, "stays 0 1 -1", "stays 0 6 0");
            x.leaves(NO, "stays 0 1 99").leaves(BAD, "stays 0 0 -1", "stays 0 7 0", "stays 0 1 -2", "stays 2 1 -1");
            x.due(0, "stays 1 1 -1").due(BAD, Fires.with("stays # 1 -1", Fires.outside(0, 1)));
        });
    }

    private static final String CHAIN = "t1999;t2999;t3999;t4999;t5999;t6999;t7999;t8999;t9999;";

    private static void tell() {
        Edges.edge("TELL: rows of none to 6 of its LOGS", () -> {
            Fires x = Fires.laid(CHAIN + "c0,1,9,9,9,9;").way("tell 0 0", 0).way("tell 0 1", 1, 0);
            x.way("tell 0 5", 5, 0, 0, 0, 0, 0).way("tell 0 6", 6, 0, 0, 0, 0, 0, 0).way("tell 0 7", NONE);
            x.way("tell 0 8", NONE).does("put 0 0").way("tell 0 7", 6, 0, 0, 0, 0, 0, 0).way("tell 0 0", NONE);
        });
        Edges.edge("TELL: of its LOGS, each once, no other COMPANY's", () -> {
            Fires x = Fires.laid(CHAIN + "c0,1,5,9,9,9;c0,1,6,0,0,0;c0,1,0,9,9,9;c8,9,9,9,9,9;");
            x.way("tell 0 5", 5, 0, 0, 0, 0, 0).way("tell 0 6", NONE).way("tell 1 6", 6, 0, 0, 0, 0, 0, 0);
            x.way("tell 2 1", NONE).way("tell 2 0", 0).way("tell 3 8", 0).way("tell 3 7", NONE);
        });
        Edges.edge("TELL: no HOUR going by: by no RAIN", () -> {
            Fires x = Fires.laid("t1999;t2999;t9999;r3;c0,1,2,0,0,0;c0,1,0,0,0,0;").way("tell 0 2", 2, 0, 0);
            x.does("put 0 0").way("tell 0 2", 1, 0).due(0, "count 2");
        });
        Edges.edge("TELL: its FIRE being IN all along", () -> {
            Fires.laid("t9919;t9999;c0,2,0,0,9,0;").way("tell 0 1", NONE).way("tell 0 0", 0);
            Fires.laid("t9919;t9999;c0,3,0,0,9,0;").way("tell 0 1", 1, 2);
            Fires.laid("t9919;t9929;t9999;c0,4,0,0,9,0;").way("tell 0 2", NONE);
            Fires.laid("t9919;t9929;t9999;c0,5,0,0,9,0;").way("tell 0 2", 2, 2, 2);
            Fires.laid("t9919;t9999;c0,1,0,0,9,1;").way("tell 0 1", NONE);
            Fires.laid("t9919;t9999;c0,1,0,0,9,2;").way("tell 0 1", 3, 3, 3, 2);
            Fires.laid("t9919;t2999;t9999;c0,1,9,0,9,0;").way("tell 0 2", 3, 0, 2, 0);
            Fires.laid("t9919;t2999;t9999;c0,2,1,0,9,0;").way("tell 0 2", NONE);
        });
        Edges.edge("TELL: a LOG by which it stays is one of the row", () -> {
            Fires.laid("t9919;t9999;c0,2,1,0,1,0;").way("tell 0 1", 2, 0, 2);
            Fires.laid("t9919;t9929;t9939;t9949;t9999;c0,1,1,0,4,0;").way("tell 0 2", 3, 0, 2, 2).way("tell 0 3", NONE);
            Fires.laid("t9919;t9929;t9939;t9949;t9999;c0,1,2,0,4,0;").way("tell 0 4", 6, 0, 0, 2, 2, 2, 2);
            Fires.laid("t9919;t9929;t9939;t9949;t5999;t9999;c0,1,3,0,4,0;").way("tell 0 5", NONE);
        });
        Edges.edge("TELL: that of fewest, of several the first", () -> {
            Fires.laid("t1122;t9992;t9999;c0,9,9,9,9,9;").way("tell 0 2", 1, 2).way("tell 0 1", 1, 0);
            Fires.laid("t1299;t2999;t9999;c0,9,9,9,9,9;").way("tell 0 2", 1, 1);
            Fires.laid("t1299;t2999;t9999;c0,9,9,0,9,9;").way("tell 0 2", 2, 0, 0);
            Fires.laid("t9119;t9229;t9999;c0,9,9,9,9,9;").way("tell 0 2", 2, 1, 1);
            Fires.laid("t9911;t9922;t9999;c0,9,9,9,1,1;").way("tell 0 2", 2, 2, 3);
            Fires.laid("t1191;t3329;t9999;t9929;c0,9,1,1,1,1;").way("tell 0 2", 2, 0, 2).way("tell 0 3", 2, 0, 1);
            Fires.laid("t9911;t9922;t9999;c0,4,0,0,2,2;").way("tell 0 2", 2, 2, 3);
            Fires.laid("t9911;t9922;t9999;c0,3,0,0,2,1;").way("tell 0 2", 2, 2, 3);
            Fires.laid("t9911;t9922;t9999;c0,2,0,0,2,1;").way("tell 0 2", 2, 3, 2);
        });
        Edges.edge("TELL: at that LINE behind the row: on its way is sooner", () ->
                Fires.laid("t1111;t2222;t0000;c0,9,9,9,9,9;").way("tell 0 1", 1, 0).way("tell 0 2", 2, 0, 0)
                        .way("tell 0 0", 0));
    }

    private static void tellNumbers() {
        Edges.edge("tell: a LINE; BAD", () -> {
            for (int n = 1; n <= 9; n++) {
                Fires x = Fires.laid("t0000;".repeat(n) + "c0,9,1,1,1,1;").leaves(0, "tell 0 0 -1");
                x.leaves(n == 1 ? 0 : NONE, "tell 0 " + (n - 1) + " -1")
                        .leaves(BAD, "tell 0 " + n + " -1", "tell 0 -1 -1");
                x.due(BAD, Fires.with("tell 0 # 0", Fires.outside(0, n - 1)));
            }
        });
        Edges.edge("tell: how many (k = -1), the k-th (0 first; NONE: there are not so many); BAD", () -> {
            Fires x = Fires.laid(CHAIN + "c0,1,9,9,9,9;").leaves(6, "tell 0 6 -1")
                    .leaves(0, "tell 0 6 0", "tell 0 6 5");
            x.leaves(NONE, "tell 0 6 6", "tell 0 0 0", "tell 0 7 -1", "tell 0 7 0");
            x.leaves(BAD, "tell 0 6 -2", "tell 0 7 -2").due(BAD, "tell 0 6 " + Integer.MIN_VALUE);
        });
        Edges.edge("tell: NO: OUT; BAD ahead of it", () -> {
            Fires x = Fires.laid(CHAIN + "c0,1,9,9,9,9;c0,9,9,9,9,9;").does("pass 1")
                    .leaves(NO, "tell 0 0 -1", "tell 0 8 0");
            x.leaves(NO, "tell 0 0 99").leaves(BAD, "tell 0 9 -1", "tell 0 -1 0", "tell 0 0 -2", "tell 2 0 -1");
            x.due(0, "tell 1 0 -1").due(BAD, Fires.with("tell # 0 -1", Fires.outside(0, 1)));
        });
    }

    private static void meet() {
        Edges.edge("MEET: the shortest: at the same LINE already", () -> {
            Fires x = Fires.laid("t1999;t9999;c1,9,0,0,0,0;c1,1,0,0,0,0;c0,1,0,0,0,0;").way("meet 0 1", 0)
                    .way("meet 1 0", 0);
            x.way("meet 2 0", 1, 0).way("meet 0 2", 1, 0);
        });
        Edges.edge("MEET: the longest shortest row that there is: 36", () -> {
            int[] row = new int[37];
            row[0] = 36;
            for (int k = 0; k < 4; k++) {
                row[9 * (k + 1)] = 1;
            }
            Fires x = Fires.laid("t1999;t2999;t3999;t4999;t5999;t6999;t7999;t8999;t0099;c4,1,0,0,0,0;c0,1,0,0,0,0;");
            x.way("meet 0 1", row).way("meet 1 0", row);
            Fires wet = Fires.laid("t9919;t9929;t9939;t9949;t9959;t9969;t9979;t9989;t0909;c4,1,0,0,0,0;c0,1,0,0,0,0;");
            for (int k = 1; k <= 36; k++) {
                row[k] = k % 9 == 0 ? 0 : 2;
            }
            wet.way("meet 0 1", row);
        });
        Edges.edge("MEET: whatever LOGS there are, however hot they are", () -> {
            Fires x = Fires.laid("t9919;t9929;t9939;t9949;t9959;t9969;t9979;t9989;t9999;c0,1,0,0,0,0;c8,1,0,0,0,0;");
            x.way("meet 0 1", 8, 2, 2, 2, 2, 2, 2, 2, 2).does("pass 1").due(NO, "meet 0 1 -1");
        });
        Edges.edge("MEET: both, each going on from its LINE, by the same row", () -> {
            Fires.laid("t1999;t0999;c0,9,9,9,9,9;c1,9,9,9,9,9;").way("meet 0 1", NONE).way("meet 1 0", NONE);
            Fires.laid("t1111;t0000;c0,9,9,9,9,9;c1,9,9,9,9,9;").way("meet 0 1", NONE);
            Fires.laid("t2999;t3999;t9999;t9999;c0,9,9,9,9,9;c1,9,9,9,9,9;").way("meet 0 1", NONE);
            Fires others = Fires.laid("t1111;t0000;" + "t1111;".repeat(7) + "c0,9,9,9,9,9;c1,9,9,9,9,9;c8,9,9,9,9,9;");
            others.way("meet 0 1", NONE).way("meet 1 0", NONE).way("meet 0 2", 1, 0).way("meet 1 2", NONE);
            String apart = "t1211;t9999;t9999;t9999;t9999;t1111;t9999;t9999;t9999;";
            Fires.laid(apart + "c0,9,9,9,9,9;c3,9,9,9,9,9;").way("meet 0 1", NONE).way("meet 1 0", NONE);
            Fires.laid("t2999;t3999;t9999;t9929;c0,9,9,9,9,9;c1,9,9,9,9,9;").way("meet 0 1", 2, 0, 2);
            Fires.laid("t9199;t9999;c0,9,9,9,9,9;c1,9,9,9,9,9;").way("meet 0 1", 1, 1);
        });
        Edges.edge("MEET: of several the first", () -> {
            Fires.laid("t1111;t1111;c0,9,9,9,9,9;c1,9,9,9,9,9;").way("meet 0 1", 1, 0);
            Fires.laid("t9911;t9911;c0,9,9,9,9,9;c1,9,9,9,9,9;").way("meet 0 1", 1, 2);
            Fires.laid("t2393;t3219;t4999;t4994;t9999;c0,9,0,0,0,0;c1,9,0,0,0,0;").way("meet 0 1", 2, 0, 0);
            Fires.laid("t2399;t3299;t9994;t9949;t9994;c0,9,0,0,0,0;c1,9,0,0,0,0;").way("meet 0 1", 3, 0, 2, 3);
            Fires.laid("t2399;t3299;t9944;t9944;t9999;c0,9,0,0,0,0;c1,9,0,0,0,0;").way("meet 0 1", 2, 0, 2);
        });
    }

    private static void meetNumbers() {
        Edges.edge("meet: how long (k = -1), the k-th WOOD (0 first; NONE: there are not so many); BAD", () -> {
            Fires x = Fires.laid("t1999;t2999;t9999;c0,1,0,0,0,0;c2,1,0,0,0,0;").leaves(2, "meet 0 1 -1");
            x.leaves(0, "meet 0 1 0", "meet 0 1 1").leaves(NONE, "meet 0 1 2", "meet 0 1 " + Integer.MAX_VALUE);
            x.leaves(BAD, "meet 0 1 -2").due(BAD, "meet 0 1 " + Integer.MIN_VALUE);
        });
        Edges.edge("meet: NO: OUT, one of them; BAD (alike, too) ahead of it", () -> {
            Fires x = Fires.laid("t1111;t0000;c0,1,1,1,1,1;c1,9,1,1,1,1;c0,1,1,1,1,1;").does("pass 1");
            x.leaves(NO, "meet 0 1 -1", "meet 1 0 0", "meet 0 2 9")
                    .leaves(BAD, "meet 0 1 -2", "meet 0 0 -1", "meet 1 1 -1");
            x.leaves(BAD, "meet 3 0 -1", "meet 0 3 -1", "meet -1 0 0", "meet 0 -1 0");
            x.due(BAD, Fires.with("meet # 1 0", Fires.outside(0, 2)))
                    .due(BAD, Fires.with("meet 1 # 0", Fires.outside(0, 2)));
        });
    }

    private static void can() {
        Edges.edge("CAN: LINES (bits), that at which it is among them", () -> {
            for (int n = 1; n <= 9; n++) {
                int l = n - 1;
                Fires.laid("t9999;".repeat(n) + "c" + l + ",1,0,0,0,0;c0,1,0,0,0,0;").leaves(1 << l, "can 0")
                        .due(1, "can 1");
            }
        });
        Edges.edge("CAN: to which it can come by any WOOD so: all nine, eight steps off, and none back", () -> {
            String tale = "t9991;t9929;t9399;t4999;t9995;t9969;t9799;t8999;t9999;";
            Fires x = Fires.laid(tale + "c0,1,0,0,0,0;c8,1,0,0,0,0;c4,1,0,0,0,0;");
            x.leaves(511, "can 0").due(256, "can 1").due(0x1f0, "can 2");
            Fires.laid("t9999;t9990;t9919;t9299;t3999;t9994;t9959;t9699;t7999;c8,1,0,0,0,0;").due(511, "can 0");
        });
        Edges.edge("CAN: so: whatever LOGS there are, however hot it is", () ->
                Fires.laid("t9929;t9999;t9919;c0,1,0,0,0,0;").due(7, "can 0"));
        Edges.edge("can: NO: OUT; BAD ahead of it", () -> {
            for (int n = 1; n <= 4; n++) {
                Fires x = Fires.laid("t9999;" + "c0,1,9,9,9,9;".repeat(n)).leaves(1, "can 0", "can " + (n - 1))
                        .does("pass 1");
                x.leaves(NO, "can 0", "can " + (n - 1)).leaves(BAD, "can " + n, "can -1");
                x.due(BAD, Fires.with("can #", Fires.outside(0, n - 1)));
            }
        });
    }

    private static void give() {
        Edges.edge("GIVE: the lowest WOOD such that both FIRES could be KEPT IN", () -> {
            Fires.laid("t9999;c0,9,1,1,1,1;c0,9,0,0,0,0;").leaves(0, "give 0 1 1").leaves(NONE, "give 1 0 1");
            Fires.laid("t9999;c0,9,0,1,1,1;c0,9,0,0,0,0;").due(1, "give 0 1 1");
            Fires.laid("t9999;c0,9,0,0,1,1;c0,9,0,0,0,0;").due(2, "give 0 1 1");
            Fires.laid("t9999;c0,9,0,0,0,1;c0,9,0,0,0,0;").due(3, "give 0 1 1");
            Fires.laid("t9999;c0,9,0,0,1,1;c0,1,0,0,0,0;").due(3, "give 0 1 1");
            Fires.laid("t9999;c0,9,0,0,1,0;c0,1,0,0,0,0;").due(NONE, "give 0 1 1");
            Fires.laid("t9999;r3;c0,9,1,1,1,1;c0,2,0,0,0,0;").due(0, "give 0 1 1").due(3, "give 0 1 2");
        });
        Edges.edge("GIVE: did it HAND a LOG of it (which can be)", () -> {
            Fires.laid("t9999;c0,9,0,0,0,0;c0,9,9,9,9,9;").leaves(NONE, "give 0 1 1").leaves(0, "give 1 0 1");
            Fires.laid("t9999;c0,9,9,9,9,9;c0,9,9,9,9,9;").leaves(0, "give 0 1 6", "give 1 0 6");
        });
        Edges.edge("GIVE: each by its own LOGS: the first one, too, without that LOG", () -> {
            Fires.laid("t9999;c0,1,1,0,0,0;c0,1,0,0,0,0;").due(NONE, "give 0 1 1");
            Fires.laid("t9999;c0,1,2,0,0,0;c0,1,0,0,0,0;").due(0, "give 0 1 1");
            Fires.laid("t9999;c0,1,1,1,0,0;c0,1,0,0,0,0;").due(0, "give 0 1 1");
            Fires.laid("t9999;r3;c0,2,1,0,0,1;c0,2,1,0,0,0;").due(0, "give 0 1 2");
            Fires.laid("t9999;r3;c0,2,1,0,0,1;c0,2,0,0,0,0;").due(NONE, "give 0 1 2");
            Fires.laid("t9999;r3;c0,2,2,0,0,1;c0,2,0,0,0,0;").due(3, "give 0 1 2");
            Fires.laid("t9999;r3;c0,1,1,1,0,1;c0,1,0,0,0,0;").due(NONE, "give 0 1 2").due(0, "give 0 1 1");
            Fires.laid("t9999;c0,1,0,0,0,0;c0,9,9,9,9,9;").due(NONE, "give 0 1 1").due(0, "give 1 0 1");
            Fires.laid("t9999;r3;c0,9,0,0,0,0;c0,9,1,0,0,0;").due(0, "give 1 0 2").due(NONE, "give 1 0 4");
        });
        Edges.edge("GIVE: both FIRES: one that could not be KEPT IN whatever it gets", () -> {
            Fires.laid("t9999;r3;c0,9,1,0,9,0;c0,1,0,0,0,0;").due(0, "give 0 1 1").due(NONE, "give 0 1 2");
            Fires.laid("t9999;r3;c0,1,0,0,9,0;c0,9,9,9,9,9;").due(NONE, "give 0 1 1").due(0, "give 1 0 1");
        });
        Edges.edge("GIVE: for n HOURS from now on, by the RAIN and the last LOGS", () -> {
            Fires x = Fires.laid("t9999;r0;r3;c0,20,1,0,0,1;c0,7,0,0,0,0;").due(0, "give 0 1 2").does("pass 1");
            x.due(0, "give 0 1 1", "give 0 1 3").due(3, "give 0 1 4", "give 0 1 6").due(1, "count 2");
            Fires wet = Fires.laid("t9999;r0;r3;c0,9,0,0,1,0;c0,5,0,0,0,0;").due(2, "give 0 1 1").does("pass 1");
            wet.due(NONE, "give 0 1 1");
            Fires pine = Fires.laid("t9999;c0,9,0,0,0,1;c0,1,0,1,0,0;").does("put 1 1").due(3, "give 0 1 6");
            pine.due(7, "company 1 0");
            Fires none = Fires.laid("t9999;c0,20,0,0,0,1;c0,1,0,1,0,0;").does("put 0 3", "put 1 1");
            none.due(NONE, "give 0 1 6", "give 1 0 6");
        });
    }

    private static void giveNumbers() {
        Edges.edge("give: for n (1 to 6) HOURS; BAD", () -> {
            Fires x = Fires.laid("t9999;c0,9,1,1,1,1;c0,9,1,1,1,1;").leaves(0, "give 0 1 1", "give 0 1 6");
            x.leaves(BAD, "give 0 1 0", "give 0 1 7").due(BAD, Fires.with("give 0 1 #", Fires.outside(1, 6)));
            Fires.laid("t9999;c0,7,1,1,1,1;c0,6,0,0,0,0;").due(0, "give 0 1 5", "give 0 1 6");
            Fires.laid("t9999;c0,7,0,0,1,1;c0,6,0,0,0,0;").due(2, "give 0 1 5").due(3, "give 0 1 6");
        });
        Edges.edge("give: NO: OUT, one of them; BAD (alike, too) ahead of it", () -> {
            Fires x = Fires.laid("t9999;c0,1,1,1,1,1;c0,9,1,1,1,1;c0,1,0,0,0,0;").does("pass 1");
            x.leaves(NO, "give 0 1 1", "give 1 0 1", "give 0 2 6")
                    .leaves(BAD, "give 0 0 1", "give 1 1 1", "give 0 1 0");
            x.leaves(BAD, "give 0 1 7", "give 3 0 1", "give 0 3 1", "give -1 0 1", "give 0 -1 1");
            x.due(BAD, Fires.with("give # 1 1", Fires.outside(0, 2)))
                    .due(BAD, Fires.with("give 1 # 1", Fires.outside(0, 2)));
        });
    }
}
