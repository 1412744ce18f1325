/** The order of refusals, that nothing changes by them, and the 512 calls for which an object is used. */
public final class EdgesOfCallsTest {
    private static final int BAD = -1, NO = -2, FULL = -3, NONE = -4;

    public static void main(String[] args) {
        constants();
        nothingChanges();
        asNeverAsked();
        order();
        manyCalls();
        Edges.end();
    }

    private static void constants() {
        Edges.edge("BAD = -1, NO = -2, FULL = -3, NONE = -4", () -> {
            int[] want = {-1, -2, -3, -4};
            int[] got = {EmberTale.BAD, EmberTale.NO, EmberTale.FULL, EmberTale.NONE};
            for (int i = 0; i < 4; i++) {
                if (got[i] != want[i]) {
                    Edges.wrong("constant " + i + " is " + got[i] + ", due is " + want[i]);
                }
            }
        });
    }

    /** Companies 0 and 1 are IN, 2 is OUT; 8 can be undone, 2 are kept, 6 seen, a faulty text written. */
    private static Fires busy() {
        return Fires.laid("t1111;t0009;r1;r0;c0,20,9,0,9,9;c1,19,9,9,9,9;c0,1,9,9,0,9;")
                .does("put 0 0", "pass 1", "keep", "put 1 1", "hand 1 2 1", "pass 2", "put 0 3", "keep", "put 1 2")
                .does("put 0 0", "pass 1", "hand 0 1 3", "put 1 0", "see 0", "see 1", "see 2", "see 3")
                .does("see 0", "see 1", "write 116", "write 57");
    }

    private static void nothingChanges() {
        Edges.edge("the camp of this test is as it should be", () -> {
            Fires x = busy().each("count", 2, 3, 4, 2, 84, 5, 6, 8, 2, 2).due(0, "fault").due(0, "company 2 0");
            x.stands(0, 19, 0, 7, 0, 9, 7, 0, 2).stands(1, 16, 0, 8, 7, 8, 10, 0, 3);
        });
        Edges.edge("nothing changes then: BAD", () -> {
            Fires x = busy().leaves(BAD, "write 31", "write 127", "line 2 0", "line 0 4", "rain -1", "rain 100");
            x.leaves(BAD, "company 3 0", "company 0 8", "put 3 0", "put 0 4", "put 2 4", "pass 0", "pass 25");
            x.leaves(BAD, "light 2 2", "light 3 0", "light 2 3", "join 0 0", "join 3 0", "join 0 3", "hand 0 0 0");
            x.leaves(BAD, "hand 3 0 0", "hand 0 3 0", "hand 0 1 4", "lasts 3", "stays 3 1 -1", "stays 0 0 -1");
            x.leaves(BAD, "stays 0 7 -1", "stays 0 1 -2", "tell 3 0 -1", "tell 0 2 -1", "tell 0 0 -2", "meet 0 0 -1");
            x.leaves(BAD, "meet 3 0 -1", "meet 0 3 -1", "meet 0 1 -2", "can 3", "give 0 0 1", "give 3 0 1",
                    "give 0 3 1");
            x.leaves(BAD, "give 0 1 0", "give 0 1 7", "see 4", "from 3", "rows 3 0 0", "rows 0 2 0", "rows 0 0 9");
            x.leaves(BAD, "rains 3 0 0 0", "rains 0 9 0 0", "rains 0 0 11 0", "rains 0 0 0 2", "winter 10000 1 0");
            x.leaves(BAD, "winter 0 0 0", "winter 0 61 0", "winter 0 1 2", "count 10", "count -1");
        });
        Edges.edge("nothing changes then: NO", () -> {
            Fires x = busy().leaves(NO, "lay", "put 2 0", "put 0 1", "light 0 1", "light 1 2", "join 0 2", "join 2 1");
            x.leaves(NO, "hand 0 1 1", "hand 2 0 2", "stays 2 1 -1", "tell 2 0 -1", "meet 0 2 -1", "meet 2 0 0");
            x.leaves(NO, "can 2", "give 0 2 1", "give 2 0 1", "from 2", "rows 2 0 0");
        });
        Edges.edge("nothing changes then: FULL", () -> busy().leaves(FULL, "see 0", "keep"));
        Edges.edge("nothing changes by a call that only tells", () -> {
            Fires x = busy().leaves(0, "fault", "line 1 1", "rain 1").leaves(1, "rain 0", "line 0 3");
            x.leaves(19, "company 0 0").leaves(13, "lasts 0").leaves(0, "lasts 2", "stays 0 6 -1", "meet 0 1 -1");
            x.leaves(NONE, "line 1 3", "stays 0 6 0", "company 2 1")
                    .leaves(1, "tell 0 1 -1", "rows 0 0 0", "rains 0 8 0 1");
            x.leaves(3, "can 0").leaves(0, "give 0 1 6", "tell 0 1 0").leaves(2, "count 3");
        });
    }

    private static void asNeverAsked() {
        Edges.edge("what a call answers does not hang on what was asked ahead of it", () -> {
            String tale = "t1999;t2929;t3399;t4939;t5999;t6699;t7999;t8299;t0099;r1;r0;r2;";
            Fires fresh = Fires.laid(tale + "c4,20,2,1,3,1;c0,1,2,0,0,2;c7,5,0,3,9,1;c2,2,9,9,9,9;");
            Fires asked = fresh.again();
            for (int round = 0; round < 2; round++) {
                for (int a = 0; a < 4; a++) {
                    int b = (a + 1 + round) % 4;
                    for (String call : new String[] {"meet # % -1", "meet # % 0", "stays # 6 -1", "stays # 3 0",
                        "tell # 3 -1", "tell # 3 0", "give # % 4", "can #", "from #", "rows # 0 6", "rains # 4 3 0",
                        "rains # 4 3 1", "lasts #", "winter 5 60 #", "meet % # -1", "meet % # 1"}) {
                        String told = call.replace("#", String.valueOf(a)).replace("%", String.valueOf(b));
                        asked.due(fresh.again().asks(told), told);
                    }
                }
            }
        });
    }

    private static void order() {
        Edges.edge("Of several the first in this order: BAD ahead of NO, whatever the order at a call", () -> {
            Fires x = busy().leaves(BAD, "put 2 4", "put 2 -1", "light 0 0", "light 0 3", "light 3 0", "join 2 2",
                    "join 2 3");
            x.leaves(BAD, "join 3 2", "hand 0 0 1", "hand 0 3 1", "hand 3 0 2", "hand 0 1 -1", "stays 2 0 -1",
                    "stays 2 7 9");
            x.leaves(BAD, "stays 2 1 -2", "tell 2 2 -1", "tell 2 0 -2", "meet 2 2 -1", "meet 2 0 -2", "meet 0 2 -2");
            x.leaves(BAD, "meet 2 3 -1", "give 2 2 1", "give 2 0 0", "give 0 2 7", "give 2 3 1", "rows 2 2 0",
                    "rows 2 0 9");
        });
        Edges.edge("NO ahead of NONE", () ->
                busy().leaves(NO, "stays 2 6 5", "stays 2 1 99", "tell 2 1 99", "meet 2 0 99", "meet 0 2 99"));
        Edges.edge("BAD ahead of NONE", () -> {
            Fires x = busy().leaves(BAD, "line 1 4", "line 2 3", "company 2 8", "company 2 9", "stays 0 7 99",
                    "tell 0 2 99");
            x.leaves(BAD, "meet 0 0 99", "give 1 1 6", "give 0 1 7", "stays 0 6 -2");
        });
        Edges.edge("BAD ahead of FULL", () -> {
            Fires x = busy().leaves(BAD, "see 4", "see -1");
            for (int i = 2; i < 200; i++) {
                x.does("write 32");
            }
            x.due(FULL, "write 32", "write 126").due(BAD, "write 31", "write 127").due(200, "count 9");
        });
    }

    /** Goes on up to the last call that is promised. */
    private static void last(Fires x, int want, String call) {
        x.due(want, call);
        if (x.calls() != 512) {
            Edges.wrong("this is call " + x.calls());
        }
    }

    private static void manyCalls() {
        Edges.edge("An object is used for at most 512 calls: HOURS", () -> {
            Fires x = new Fires();
            for (int i = 0; i < 500; i++) {
                x.does("pass 24");
            }
            x.due(12000, "count 2").due(8, "count 7").due(7, "undo").due(11976, "count 2").due(0, "rain 0");
            for (int left = 6; left >= 1; left--) {
                x.due(left, "undo");
            }
            last(x, 500 * 24 - 7 * 24, "count 2");
        });
        Edges.edge("512 calls: PUT ON and UNDONE", () -> {
            Fires x = Fires.laid("t1999;t0999;c0,9,9,9,9,9;");
            for (int i = 0; i < 242; i++) {
                x.due(1, "put 0 0").due(0, "undo");
            }
            last(x, 9, "company 0 2");
        });
        Edges.edge("512 calls: KEPT and back", () -> {
            Fires x = new Fires();
            for (int i = 0; i < 255; i++) {
                x.due(1, "keep").due(0, "back");
            }
            last(x.due(1, "keep"), 2, "keep");
        });
        Edges.edge("512 calls: SEEN and forgotten", () -> {
            Fires x = new Fires();
            for (int i = 0; i < 64; i++) {
                x.due(1, "see 0").due(2, "see 1").due(3, "see 2").due(4, "see 3").due(5, "see 0").due(6, "see 0");
                x.due(FULL, "see 0");
                if (i < 63) {
                    x.due(6, "forget");
                }
            }
            last(x, 6, "forget");
        });
        Edges.edge("512 calls: letters", () -> {
            Fires x = Fires.written("a".repeat(200)).due(FULL, "write 97").due(200, "wipe").writes("b".repeat(200));
            x.due(200, "wipe").writes("c".repeat(108));
            last(x, 109, "write 97");
        });
        Edges.edge("512 calls: the dearest ones", () -> {
            Fires x = Fires.laid("t1999;t2999;t3999;t4999;t5999;t6999;t7999;t8999;t0099;c4,20,9,9,9,9;c0,1,6,9,9,9;");
            for (int i = 0; i < 107; i++) {
                x.due(NONE, "tell 1 8 -1").due(0, "stays 1 6 0").due(0, "give 0 1 6").due(36, "meet 0 1 -1");
            }
            last(x, 511, "can 1");
        });
    }
}
