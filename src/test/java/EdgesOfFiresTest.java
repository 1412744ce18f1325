/** Terms 2 and promises 9 to 14: each sentence that names a bound, on both sides of it. */
public final class EdgesOfFiresTest {
    private static final int BAD = -1, NO = -2, NONE = -4;
    private static final int[] HOTTER = {4, 6, -2, 1};

    public static void main(String[] args) {
        put();
        logs();
        linesTold();
        hours();
        lastLog();
        light();
        join();
        hand();
        undo();
        undoneWhole();
        Edges.end();
    }

    private static Fires one(int hot, String rain, String logs) {
        return Fires.laid("t9999;" + rain + "c0," + hot + "," + logs + ";");
    }

    private static void put() {
        Edges.edge("OAK makes it 4 hotter, PINE 6, GREEN 1, WET 2 less hot; 20 at most, OUT below 1", () -> {
            for (int wood = 0; wood < 4; wood++) {
                for (int hot = 1; hot <= 20; hot++) {
                    int want = Math.max(0, Math.min(20, hot + HOTTER[wood]));
                    Fires x = one(hot, "", "1,1,1,1").due(want > 0 ? 0 : NONE, "put 0 " + wood);
                    x.due(want, "company 0 0").due(want > 0 ? 1 : 0, "count 3").due(1, "count 7");
                    x.due(want > 0 ? 0 : NONE, "company 0 1").due(want > 0 ? wood : NONE, "company 0 6");
                }
            }
        });
        Edges.edge("20 at most: what is beyond is lost", () -> {
            one(20, "", "2,1,1,1").does("put 0 0", "put 0 1", "put 0 3", "put 0 0").due(20, "company 0 0")
                    .does("put 0 2")
                    .due(18, "company 0 0");
            one(19, "", "1,0,1,0").does("put 0 0", "put 0 2").due(18, "company 0 0");
        });
        Edges.edge("put: a COMPANY, WOOD 0 to 3; BAD", () -> {
            for (int n = 1; n <= 4; n++) {
                Fires x = Fires.laid("t9999;" + "c0,9,9,9,9,9;".repeat(n)).due(0, "put 0 0", "put " + (n - 1) + " 3");
                x.leaves(BAD, "put " + n + " 0", "put -1 0", "put 0 4", "put 0 -1");
                x.due(BAD, Fires.with("put # 0", Fires.outside(0, n - 1)));
                x.due(BAD, Fires.with("put " + (n - 1) + " #", Fires.outside(0, 3)));
            }
        });
        Edges.edge("put: NO: OUT", () -> {
            one(1, "", "1,1,1,1").due(0, "company 0 1").does("pass 1")
                    .leaves(NO, "put 0 0", "put 0 1", "put 0 2", "put 0 3");
            one(2, "", "1,1,2,1").due(NONE, "put 0 2").leaves(NO, "put 0 0", "put 0 1", "put 0 2", "put 0 3");
            Fires x = Fires.laid("t9999;c0,5,1,1,1,1;c0,5,1,1,1,1;").does("join 0 1", "hand 0 1 0")
                    .leaves(NO, "put 1 0");
            x.due(0, "put 0 0");
        });
        Edges.edge("put: BAD ahead of NO", () ->
                one(1, "", "0,0,0,0").does("pass 1").leaves(BAD, "put 0 4", "put 0 -1", "put 1 0", "put -1 0"));
    }

    private static void logs() {
        Edges.edge("A LOG that a COMPANY has; put: NO: no such LOG", () -> {
            for (int wood = 0; wood < 4; wood++) {
                StringBuilder logs = new StringBuilder("9,9,9,9");
                logs.setCharAt(2 * wood, '1');
                Fires x = one(9, "", logs.toString()).due(0, "put 0 " + wood).due(0, "company 0 " + (2 + wood));
                x.leaves(NO, "put 0 " + wood).due(27, "count 4").due(1, "count 7");
                logs.setCharAt(2 * wood, '0');
                one(9, "", logs.toString()).leaves(NO, "put 0 " + wood);
                Fires other = Fires.laid("t9999;c0,9," + logs + ";c0,9,1,1,1,1;").leaves(NO, "put 0 " + wood);
                other.due(0, "put 1 " + wood).due(30, "count 4");
            }
        });
        Edges.edge("LOGS: the last of nine, and no more", () -> {
            Fires x = one(20, "", "0,9,0,0");
            for (int n = 8; n >= 0; n--) {
                x.does("put 0 1").due(n, "company 0 3", "count 4");
            }
            x.leaves(NO, "put 0 1");
        });
    }

    private static void linesTold() {
        Edges.edge("is it IN then, the LINE behind its own by that WOOD comes", () -> {
            String tale = "t1234;t9999;t9999;t9999;t9999;";
            for (int wood = 0; wood < 4; wood++) {
                Fires.laid(tale + "c0,3,1,1,1,1;").due(wood + 1, "put 0 " + wood).due(wood + 1, "company 0 1")
                        .due(1, "company 0 7");
            }
            Fires x = Fires.laid("t9989;t9999;t9999;t9999;t9999;t9999;t9999;t9999;t0999;c0,3,1,0,1,0;");
            x.due(8, "put 0 2").due(0, "put 0 0").due(2, "count 5");
        });
        Edges.edge("is it IN then: OUT by it no LINE comes, none is TOLD, the LOG is gone", () -> {
            for (int hot = 1; hot <= 2; hot++) {
                Fires x = Fires.laid("t1111;t0000;c0," + hot + ",1,1,2,1;").due(NONE, "put 0 2");
                x.stands(0, 0, NONE, 1, 1, 1, 1, NONE, 0).due(0, "count 5", "count 3").due(1, "count 7").due(0, "undo");
                x.stands(0, hot, 0, 1, 1, 2, 1, NONE, 0);
            }
            Fires.laid("t1111;t0000;c0,3,1,1,2,1;").due(1, "put 0 2").stands(0, 1, 1, 1, 1, 1, 1, 2, 1);
        });
        Edges.edge("none: it stays; it staying is not TOLD", () -> {
            Fires x = Fires.laid("t9999;t9909;c1,9,9,9,9,9;").due(1, "put 0 0", "put 0 1", "put 0 3");
            x.stands(0, 20, 1, 8, 8, 9, 8, 3, 0).due(0, "put 0 2").due(0, "put 0 2").due(1, "company 0 7", "count 5");
        });
        Edges.edge("one TOLD twice counts twice; a LINE behind itself comes, too", () -> {
            Fires x = Fires.laid("t1990;t0999;c0,9,9,9,9,9;").does("put 0 0", "put 0 0", "put 0 0", "put 0 0");
            x.due(4, "company 0 7", "count 5").due(0, "put 0 3", "put 0 3").due(6, "company 0 7", "count 5");
        });
        Edges.edge("at its FIRE: each COMPANY's are counted alone, in all by count", () -> {
            Fires x = Fires.laid("t0000;c0,9,9,9,9,9;c0,9,9,9,9,9;").does("put 1 0").due(0, "company 0 7");
            x.due(1, "company 1 7", "count 5").does("put 0 0", "put 1 0").due(1, "company 0 7").due(3, "count 5");
        });
    }

    private static void hours() {
        Edges.edge("In an HOUR each FIRE that is IN is less hot by 1, by the RAIN; IN, if 1 or more hot", () -> {
            for (int rain = 0; rain <= 3; rain++) {
                for (int hot = 1; hot <= 20; hot++) {
                    int want = Math.max(0, hot - 1 - rain);
                    Fires x = one(hot, "r" + rain + ";", "0,0,0,0").due(want > 0 ? 1 : 0, "pass 1");
                    x.stands(0, want, want > 0 ? 0 : NONE, 0, 0, 0, 0, NONE, 0).due(1, "count 2");
                }
            }
        });
        Edges.edge("by 1 more, if the last LOG is PINE", () -> {
            for (int rain = 0; rain <= 3; rain++) {
                for (int hot = 1; hot <= 14; hot++) {
                    int want = Math.max(0, hot + 6 - 2 - rain);
                    one(hot, "r" + rain + ";", "0,1,0,0").does("put 0 1").due(1, "pass 1").due(want, "company 0 0");
                }
                Fires x = one(1, "r" + rain + ";", "0,1,0,0").does("put 0 1", "pass 1").due(5 - rain, "company 0 0");
                x.does("pass 1").due(Math.max(0, 3 - 2 * rain), "company 0 0");
            }
        });
        Edges.edge("for a GREEN one the RAIN does not count", () -> {
            for (int rain = 0; rain <= 3; rain++) {
                Fires x = one(1, "r" + rain + ";", "0,0,0,1").does("put 0 3").due(1, "pass 1").due(1, "company 0 0");
                x.due(0, "pass 1").due(0, "company 0 0");
            }
        });
        Edges.edge("for an OAK or a WET one the RAIN counts, and it is not by 1 more", () -> {
            one(9, "r2;", "1,0,0,0").does("put 0 0", "pass 1").due(10, "company 0 0");
            one(9, "r2;", "0,0,1,0").does("put 0 2", "pass 1").due(4, "company 0 0");
        });
        Edges.edge("the RAIN of the hour: each HOUR by its own", () -> {
            Fires x = one(20, "r3;r0;r1;", "0,0,0,0").does("pass 1").due(16, "company 0 0").does("pass 1");
            x.due(15, "company 0 0").does("pass 1").due(13, "company 0 0").does("pass 1").due(9, "company 0 0");
            one(20, "r3;r0;r1;", "0,0,0,0").does("pass 4").due(9, "company 0 0").does("pass 2").due(6, "company 0 0");
        });
        Edges.edge("each FIRE: all burn down in the same HOUR by the same RAIN", () -> {
            Fires x = Fires.laid("t9999;r1;r0;c0,3,0,0,0,0;c0,4,0,0,0,0;c0,2,0,0,0,0;c0,20,0,0,0,0;").due(3, "pass 1");
            x.each("company 3", 18).each("company 2", 0, NONE).each("company 0", 1, 0).each("company 1", 2, 0);
            x.due(2, "pass 1").each("company 0", 0, NONE).each("company 1", 1, 0).due(17, "company 3 0");
        });
        Edges.edge("pass: n HOURS (1 to 24); BAD", () -> {
            one(3, "r1;", "1,0,0,0").leaves(BAD, Fires.with("pass #", Fires.outside(1, 24)));
            one(20, "", "0,0,0,0").due(1, "pass 1").due(19, "company 0 0").due(1, "count 2");
            one(20, "", "0,0,0,0").due(0, "pass 24").due(24, "count 2");
            Fires x = one(20, "", "0,0,0,0").due(1, "pass 19").due(1, "company 0 0").due(0, "pass 1")
                    .due(20, "count 2");
            x.leaves(BAD, "pass 0", "pass 25", "pass -1").due(0, "pass 24").due(44, "count 2");
        });
        Edges.edge("pass: n at one time are as n times one, but for what can be UNDONE", () -> {
            String text = "t9999;r1;r0;r3;c0,20,1,1,1,1;c0,14,1,1,1,1;c0,15,1,1,1,1;";
            for (int n = 1; n <= 24; n++) {
                Fires once = Fires.laid(text).does("put 1 1", "put 2 3", "pass " + n);
                Fires often = Fires.laid(text).does("put 1 1", "put 2 3");
                for (int i = 0; i < n; i++) {
                    often.does("pass 1");
                }
                Fires.same(once.does("keep", "back"), often.does("keep", "back"));
            }
        });
        Edges.edge("OUT stays OUT, HOURS go by all the same", () -> {
            Fires x = one(1, "r3;r0;", "1,1,1,1").due(0, "pass 1", "pass 1", "pass 24").due(26, "count 2");
            x.stands(0, 0, NONE, 1, 1, 1, 1, NONE, 0).due(3, "count 7", "rain 0");
        });
    }

    private static void lastLog() {
        Edges.edge("the last LOG PUT ON: only the last one", () -> {
            one(5, "r2;", "1,1,1,1").does("put 0 1", "put 0 0", "pass 1").due(12, "company 0 0");
            one(5, "r2;", "1,1,1,1").does("put 0 0", "put 0 1", "pass 1").due(11, "company 0 0");
            one(5, "r2;", "1,1,1,1").does("put 0 3", "put 0 1", "pass 1").due(8, "company 0 0");
            one(5, "r2;", "1,1,1,1").does("put 0 1", "put 0 3", "pass 1").due(11, "company 0 0");
            one(5, "r2;", "1,1,1,1").does("put 0 3", "put 0 2", "pass 1").due(1, "company 0 0");
        });
        Edges.edge("the last LOG: of its own FIRE, not of another COMPANY's", () -> {
            Fires x = Fires.laid("t9999;r2;c0,9,1,1,1,1;c0,9,1,1,1,1;").does("put 0 3", "put 1 1", "pass 1");
            x.due(9, "company 0 0").due(11, "company 1 0").due(3, "company 0 6").due(1, "company 1 6");
        });
        Edges.edge("the last LOG PUT ON since it was lit: none of ahead of it", () -> {
            for (int wood = 0; wood < 4; wood++) {
                Fires x = Fires.laid("t9999;c0,20,0,0,0,0;c0,3,1,1,1,1;").does("put 1 " + wood, "pass 9");
                x.due(NONE, "company 1 6").does("light 1 0").due(NONE, "company 1 6").does("pass 2")
                        .due(1, "company 1 0");
            }
            Fires wet = Fires.laid("t9999;r2;c0,20,0,0,0,0;c0,2,0,0,0,1;").does("put 1 3", "pass 3", "light 1 0");
            wet.due(3, "company 1 0").due(1, "lasts 1").does("pass 1").due(0, "company 1 0");
        });
        Edges.edge("OUT, at no LINE, without a last LOG", () -> {
            one(2, "", "1,0,0,0").does("put 0 0", "pass 5").due(0, "company 0 6", "company 0 1").does("pass 1")
                    .each("company 0", 0, NONE, 0, 0, 0, 0, NONE, 0);
            one(1, "", "0,0,1,1").does("put 0 3").due(3, "company 0 6").due(NONE, "put 0 2")
                    .each("company 0", 0, NONE, 0, 0, 0, 0, NONE, 0);
        });
    }

    private static void light() {
        Edges.edge("A FIRE that is OUT is LIT from another COMPANY's that is 4 or more hot", () -> {
            for (int hot = 2; hot <= 20; hot++) {
                Fires x = Fires.laid("t9999;t9999;c0,1,0,0,0,0;c1," + hot + ",1,1,1,1;").does("pass 1");
                if (hot - 1 >= 4) {
                    x.due(1, "light 0 1").stands(0, 3, 1, 0, 0, 0, 0, NONE, 0).due(2, "count 3", "count 7");
                    x.stands(1, hot - 2, 1, 1, 1, 1, 1, NONE, 0);
                } else {
                    x.leaves(NO, "light 0 1");
                }
            }
        });
        Edges.edge("LIT: that one is 1 less hot, whatever the RAIN and its last LOG", () -> {
            Fires x = Fires.laid("t1999;t9999;r3;c0,1,0,0,0,0;c0,20,1,1,1,1;").does("put 1 1", "pass 1", "light 0 1");
            x.stands(1, 14, 0, 1, 0, 1, 1, 1, 0).stands(0, 3, 0, 0, 0, 0, 0, NONE, 0).due(1, "count 2");
        });
        Edges.edge("light: NO: one that is IN, be it 1 hot", () -> {
            Fires x = Fires.laid("t9999;c0,1,0,0,0,0;c0,20,0,0,0,0;").leaves(NO, "light 0 1", "light 1 0");
            x.does("pass 1").leaves(NO, "light 1 0").due(0, "light 0 1").leaves(NO, "light 0 1");
        });
        Edges.edge("light: NO: from one that is OUT", () ->
                Fires.laid("t9999;c0,1,9,9,9,9;c0,1,9,9,9,9;").does("pass 1").leaves(NO, "light 0 1", "light 1 0"));
        Edges.edge("light: the LINE; the same LINE, 0 and 8, and it goes on from there alone", () -> {
            String tale = "t8999;" + "t9999;".repeat(7) + "t0999;";
            Fires x = Fires.laid(tale + "c3,1,1,0,0,0;c8,20,1,0,0,0;c0,20,1,0,0,0;").does("pass 1").due(8, "light 0 1");
            x.due(0, "put 0 0").due(8, "company 1 1").due(1, "company 0 7").due(0, "company 1 7");
            Fires.laid(tale + "c3,1,1,0,0,0;c8,20,1,0,0,0;c0,20,1,0,0,0;").does("pass 1").due(0, "light 0 2");
        });
        Edges.edge("LIT: no LOG is PUT ON by it and no LINE TOLD", () -> {
            Fires x = Fires.laid("t0000;c0,1,1,2,3,4;c0,9,4,3,2,1;").does("put 0 3", "pass 2", "light 0 1");
            x.stands(0, 3, 0, 1, 2, 3, 3, NONE, 1).stands(1, 6, 0, 4, 3, 2, 1, NONE, 0).due(1, "count 5")
                    .due(19, "count 4");
        });
        Edges.edge("light: BAD (alike, too), ahead of NO", () -> bothCompanies("light # 0", "light 0 #", "light 0 0"));
    }

    /** BAD for both numbers of a call, as the first one, as the second one, and alike; whether IN or OUT. */
    private static void bothCompanies(String first, String second, String alike) {
        for (int n = 1; n <= 4; n++) {
            Fires x = Fires.laid("t9999;" + "c0,1,1,1,1,1;".repeat(n)).leaves(BAD, alike);
            x.leaves(BAD, Fires.with(first, n, -1)).leaves(BAD, Fires.with(second, n, -1));
            x.does("pass 1").leaves(BAD, alike).due(BAD, Fires.with(first, Fires.outside(0, n - 1)));
            x.due(BAD, Fires.with(second, Fires.outside(0, n - 1)));
        }
        Fires x = Fires.laid("t9999;c0,9,1,1,1,1;c0,9,1,1,1,1;c0,9,1,1,1,1;c0,9,1,1,1,1;");
        for (int c = 0; c < 4; c++) {
            x.leaves(BAD, alike.replace("0 0", c + " " + c));
        }
    }

    private static void join() {
        Edges.edge("JOINED: as hot as both together (20 at most)", () -> {
            for (int a = 1; a <= 20; a++) {
                for (int b : new int[] {1, 2, 9, 10, 11, 19, 20}) {
                    Fires x = Fires.laid("t9999;c0," + a + ",0,0,0,0;c0," + b + ",0,0,0,0;").due(0, "join 0 1");
                    x.due(Math.min(20, a + b), "company 0 0").due(0, "company 1 0").due(1, "count 3");
                }
            }
        });
        Edges.edge("JOINED: at the lower one of both LINES", () -> {
            int[][] pairs = {{0, 8}, {8, 0}, {3, 4}, {4, 3}, {5, 5}, {0, 0}, {8, 8}};
            for (int[] pair : pairs) {
                Fires x = Fires.laid("t9999;".repeat(9) + "c" + pair[0] + ",9,0,0,0,0;c" + pair[1] + ",9,0,0,0,0;");
                int lower = Math.min(pair[0], pair[1]);
                x.due(lower, "join 0 1").due(lower, "company 0 1").due(NONE, "company 1 1").due(0, "count 5");
            }
        });
        Edges.edge("JOINED: its own last LOG; the second one is OUT", () -> {
            String text = "t9999;r2;c0,5,1,1,1,1;c0,4,1,1,1,1;";
            Fires none = Fires.laid(text).does("put 1 1", "join 0 1").stands(0, 15, 0, 2, 1, 2, 2, NONE, 0);
            none.does("pass 1").due(12, "company 0 0");
            Fires green = Fires.laid(text).does("put 0 3", "put 1 1", "join 0 1").stands(0, 16, 0, 2, 1, 2, 1, 3, 0);
            green.does("pass 1").due(15, "company 0 0");
            Fires pine = Fires.laid(text).does("put 0 1", "put 1 3", "join 0 1").stands(0, 16, 0, 2, 1, 2, 1, 1, 0);
            pine.does("pass 1").due(12, "company 0 0").stands(1, 0, NONE, 0, 0, 0, 0, NONE, 0);
        });
        Edges.edge("JOINED: all its LOGS are the first COMPANY's (99 at most: no TEXT has so many)", () -> {
            Fires x = Fires.laid("t9999;c0,1,9,9,9,9;c0,1,9,8,7,6;c0,1,9,9,9,9;c0,1,9,0,1,9;").does("join 0 1");
            x.stands(0, 2, 0, 18, 17, 16, 15, NONE, 0).stands(1, 0, NONE, 0, 0, 0, 0, NONE, 0)
                    .does("join 0 2", "join 0 3");
            x.stands(0, 4, 0, 36, 26, 26, 33, NONE, 0).due(121, "count 4").due(1, "count 3");
            x.leaves(NO, "join 0 1", "join 0 2", "join 0 3");
        });
        Edges.edge("JOINED: the first one is the first at the call", () -> {
            Fires x = Fires.laid("t9999;t9999;c0,2,1,0,0,0;c1,3,0,1,0,0;").due(0, "join 1 0");
            x.stands(1, 5, 0, 1, 1, 0, 0, NONE, 0).stands(0, 0, NONE, 0, 0, 0, 0, NONE, 0)
                    .leaves(NO, "join 1 0", "join 0 1");
        });
        Edges.edge("Two FIRES that are IN; join: NO", () -> {
            Fires x = Fires.laid("t9999;c0,1,1,1,1,1;c0,2,1,1,1,1;c0,1,1,1,1,1;").does("pass 1");
            x.leaves(NO, "join 0 1", "join 1 0", "join 0 2", "join 2 0");
            Fires.laid("t9999;c0,1,1,1,1,1;c0,1,1,1,1,1;").due(0, "join 0 1").due(2, "company 0 0");
        });
        Edges.edge("JOINED: what was TOLD at each FIRE is TOLD at it", () -> {
            Fires x = Fires.laid("t0000;c0,5,1,1,1,1;c0,5,1,1,1,1;").does("put 0 0", "put 1 0", "put 1 1", "join 0 1");
            x.due(1, "company 0 7").due(2, "company 1 7").due(3, "count 5");
        });
        Edges.edge("join: BAD (alike, too), ahead of NO", () -> bothCompanies("join # 0", "join 0 #", "join 0 0"));
    }

    private static void hand() {
        Edges.edge("A LOG is HANDED from one COMPANY to another one: how many of it that one has then", () -> {
            for (int wood = 0; wood < 4; wood++) {
                Fires x = Fires.laid("t9999;c0,9,1,1,1,1;c0,9,9,9,9,9;").due(10, "hand 0 1 " + wood);
                x.leaves(NO, "hand 0 1 " + wood).due(40, "count 4").due(1, "count 7").due(0, "company 0 " + (2 + wood));
                x.due(1, "hand 1 0 " + wood).due(9, "company 1 " + (2 + wood)).due(NONE, "company 0 6", "company 1 6");
            }
        });
        Edges.edge("hand: NO: no such LOG", () -> {
            for (int wood = 0; wood < 4; wood++) {
                StringBuilder logs = new StringBuilder("1,1,1,1");
                logs.setCharAt(2 * wood, '0');
                Fires x = Fires.laid("t9999;c0,9," + logs + ";c0,9,0,0,0,0;").leaves(NO, "hand 0 1 " + wood);
                x.due(1, "hand 0 1 " + (wood + 1) % 4, "hand 0 1 " + (wood + 2) % 4, "hand 0 1 " + (wood + 3) % 4);
            }
        });
        Edges.edge("that has fewer than 99 of it: no TEXT has more than 36, which can be HANDED all", () -> {
            Fires x = Fires.laid("t9999;c0,9,9,0,0,0;c0,9,9,0,0,0;c0,9,9,0,0,0;c0,9,9,0,0,0;");
            for (int n = 10; n <= 36; n++) {
                x.due(n, "hand " + (1 + n % 3) + " 0 0");
            }
            x.leaves(NO, "hand 1 0 0", "hand 2 0 0", "hand 3 0 0").due(36, "company 0 2", "count 4");
        });
        Edges.edge("hand: FIRES that are OUT don't matter", () -> {
            Fires x = Fires.laid("t9999;c0,1,1,0,0,0;c0,2,0,0,0,1;").does("pass 1").due(1, "hand 0 1 0")
                    .due(1, "hand 1 0 3");
            x.does("pass 1").due(1, "hand 1 0 0").stands(0, 0, NONE, 1, 0, 0, 1, NONE, 0);
        });
        Edges.edge("hand: BAD (alike, too), ahead of NO", () -> {
            bothCompanies("hand # 0 0", "hand 0 # 0", "hand 0 0 0");
            Fires x = Fires.laid("t9999;c0,9,1,1,1,1;c0,9,0,0,0,0;")
                    .leaves(BAD, Fires.with("hand 0 1 #", Fires.outside(0, 3)));
            x.leaves(BAD, "hand 1 0 4", "hand 1 0 -1", "hand 1 1 0", "hand 0 0 4");
        });
    }

    private static void undo() {
        Edges.edge("undo: NO: nothing done", () -> {
            new Fires().leaves(NO, "undo");
            Fires.laid("t9999;c0,9,1,1,1,1;").leaves(NO, "undo").does("put 0 0").due(0, "undo").leaves(NO, "undo");
        });
        Edges.edge("UNDONE: the last 8 can be", () -> {
            for (int acts = 1; acts <= 30; acts++) {
                Fires x = Fires.laid("t9999;c0,9,1,1,1,1;");
                for (int i = 1; i <= acts; i++) {
                    x.does("pass 1").due(Math.min(8, i), "count 7");
                }
                int most = Math.min(8, acts);
                for (int left = most - 1; left >= 0; left--) {
                    x.due(left, "undo").due(left, "count 7");
                }
                x.leaves(NO, "undo");
            }
        });
        Edges.edge("UNDONE: the ninth from behind is not", () -> {
            Fires x = Fires.laid("t9999;c0,20,9,9,9,9;");
            for (int hour = 1; hour <= 9; hour++) {
                x.does("pass 1");
            }
            for (int hour = 8; hour >= 1; hour--) {
                x.due(hour - 1, "undo").due(hour, "count 2").due(20 - hour, "company 0 0");
            }
            x.leaves(NO, "undo");
        });
        Edges.edge("UNDONE are the latest: behind some of them, and new ones, round and round", () -> {
            Fires x = Fires.laid("t9999;c0,20,9,9,9,9;");
            int hour = 0;
            for (int round = 0; round < 5; round++) {
                for (int i = 0; i < 6; i++) {
                    x.does("pass 1");
                    hour++;
                }
                for (int i = 0; i < 3; i++) {
                    hour--;
                    x.does("undo").due(hour, "count 2").due(Math.max(0, 20 - hour), "company 0 0");
                }
            }
            for (int left = 4; left >= 0; left--) {
                hour--;
                x.due(left, "undo").due(hour, "count 2");
            }
            x.leaves(NO, "undo");
        });
        Edges.edge("of HOURS (all that go by at one time are one)", () -> {
            Fires x = one(20, "", "0,0,0,0").does("pass 24", "pass 1", "pass 2").due(3, "count 7").due(2, "undo");
            x.due(25, "count 2").due(1, "undo").due(24, "count 2").due(0, "undo").due(0, "count 2")
                    .due(20, "company 0 0");
        });
        Edges.edge("UNDONE are these alone: no other call and no refused one", () -> {
            Fires x = Fires.laid("t9999;c0,9,1,0,0,0;c0,9,0,0,0,0;").does("put 0 0").due(1, "count 7");
            x.does("see 1", "forget", "see 0", "write 32", "wipe", "keep", "winter 7 60 0", "fault").due(1, "count 7");
            x.due(NO, "put 0 0", "light 0 1", "hand 0 1 0").due(BAD, "pass 0", "put 0 4", "join 0 0").due(1, "count 7");
            x.due(0, "stays 0 1 -1", "tell 0 0 -1", "meet 0 1 -1").due(NONE, "give 0 1 6").due(0, "undo")
                    .due(NO, "undo");
            x.due(1, "count 6", "count 8");
        });
    }

    private static void undoneWhole() {
        Edges.edge("UNDONE: wood put on, hours, lit, joined, handed on: all of it", () -> {
            Fires x = Fires.laid("t1111;t0000;r2;c0,9,3,1,0,0;c1,1,1,1,1,2;c0,5,1,1,2,1;");
            String[] acts = {"put 0 0", "put 1 3", "hand 0 1 0", "pass 2", "light 1 0", "put 0 1", "join 0 1",
                    "pass 3"};
            Fires[] ahead = new Fires[acts.length];
            for (int i = 0; i < acts.length; i++) {
                ahead[i] = x.again();
                x.does(acts[i]);
            }
            for (int i = acts.length - 1; i >= 0; i--) {
                x.due(i, "undo");
                Fires.same(x, ahead[i]);
            }
            x.leaves(NO, "undo");
        });
        Edges.edge("UNDONE: a FIRE that went OUT is IN again, with its LINE, its last LOG, what was TOLD", () -> {
            Fires x = Fires.laid("t1111;t0000;c0,1,1,1,2,1;").does("put 0 3").due(NONE, "put 0 2").does("undo");
            x.stands(0, 2, 1, 1, 1, 2, 0, 3, 1).does("pass 2").stands(0, 0, NONE, 1, 1, 2, 0, NONE, 1).does("undo");
            x.stands(0, 2, 1, 1, 1, 2, 0, 3, 1).does("undo").stands(0, 1, 0, 1, 1, 2, 1, NONE, 0).due(0, "count 7");
        });
        Edges.edge("UNDONE: what is SEEN and THE TEXT stay, and what is KEPT", () -> {
            Fires x = new Fires().does("keep", "put 0 0", "see 1", "write 32", "keep").does("undo");
            x.due(1, "count 6", "count 9").due(2, "count 8").due(1, "back").due(1, "company 0 1");
        });
    }
}
