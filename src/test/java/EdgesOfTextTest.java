import java.util.List;

/** Terms 1 and promises 1 to 8: each sentence that names a bound, on both sides of it. */
public final class EdgesOfTextTest {
    private static final int BAD = -1, NO = -2, FULL = -3, NONE = -4;
    private static final String FIRST =
            "t1203;t2194;t4330;t0952;t5149;t9995;r0;r1;r0;r2;c0,9,3,2,1,2;c2,5,1,4,2,0;c0,12,0,0,3,3;";
    private static final String LINE = "t9999;", RAIN = "r0;", COMPANY = "c0,1,0,0,0,0;";

    public static void main(String[] args) {
        letters();
        items();
        figures();
        lines();
        rains();
        companies();
        faultPlaces();
        laid();
        newObject();
        lineCall();
        rainCall();
        companyCall();
        Edges.end();
    }

    private static String times(int n, String text) {
        return text.repeat(n);
    }

    private static void sound(String... texts) {
        for (String text : texts) {
            faultAt(NONE, text);
        }
    }

    private static void faultAt(int place, String text) {
        int got = Fires.written(text).asks("fault");
        if (got != place) {
            Edges.wrong("fault of " + text + " answered " + got + ", due is " + place);
        }
    }

    /** The item is a fault behind each of these beginnings, at its own first letter. */
    private static void faulty(String... items) {
        for (String item : items) {
            for (String ahead : List.of("t9999;", "r1;t9999;", "t9999;c0,1,0,0,0,0;")) {
                faultAt(ahead.length(), ahead + item);
            }
        }
    }

    private static void letters() {
        Edges.edge("write: a letter (32 to 126, as in ASCII); BAD", () -> {
            Fires x = new Fires();
            x.leaves(BAD, Fires.with("write #", Fires.outside(32, 126)));
            x.leaves(BAD, "write 0", "write 10", "write -32", "write 160", "write 288", "write 65568");
            x.due(1, "write 32").due(2, "write 126");
            x.leaves(BAD, "write 31", "write 127").due(2, "count 9").due(3, "write 33").due(4, "write 125");
        });
        Edges.edge("write: comes behind THE TEXT: how long it is", () -> {
            Fires x = new Fires();
            for (int letter = 32; letter <= 126; letter++) {
                x.due(letter - 31, "write " + letter);
            }
            x.due(95, "count 9", "wipe");
            Fires.written("r1").due(0, "fault").due(3, "write " + (int) ';').due(NONE, "fault");
        });
        Edges.edge("A TEXT is letters (200 at most); write: FULL", () -> {
            Fires x = Fires.written(times(198, "a")).due(199, "write 97").due(200, "write 97").due(200, "count 9");
            x.leaves(FULL, "write 97", "write 32", "write 126").due(FULL, "write 59", "write 59").due(200, "count 9");
        });
        Edges.edge("BAD, then FULL: of several the first in this order (write)", () ->
                Fires.written(times(200, "a")).leaves(BAD, Fires.with("write #", Fires.outside(32, 126))));
        Edges.edge("wipe: THE TEXT is empty: how long it was", () -> {
            new Fires().due(0, "wipe", "wipe").due(0, "count 9").due(1, "write 97").due(1, "wipe").due(0, "wipe");
            Fires x = Fires.written(times(200, "x")).due(0, "fault").due(200, "wipe").due(0, "count 9");
            x.due(NONE, "fault").due(0, "wipe").writes("r1;").due(NONE, "fault").due(3, "count 9");
            Fires.same(new Fires(), Fires.written(FIRST).does("wipe"));
        });
        Edges.edge("fault: NONE of an empty TEXT, of one letter that is none", () -> {
            new Fires().leaves(NONE, "fault");
            for (char letter = 32; letter <= 126; letter++) {
                faultAt(0, String.valueOf(letter));
            }
        });
    }

    private static void items() {
        Edges.edge("ITEMS, each a letter: t, r or c and no other one", () -> {
            for (char letter = 32; letter <= 126; letter++) {
                faultAt(letter == 't' ? NONE : 6, LINE + letter + "9999;");
                faultAt(letter == 'r' ? NONE : 6, LINE + letter + "3;");
                faultAt(letter == 'c' ? NONE : 6, LINE + letter + "0,1,0,0,0,0;");
            }
        });
        Edges.edge("ITEMS one behind the other: nothing between them", () -> {
            faulty(" r0;", ",r0;", ";r0;", ";", ".r0;", " ");
            sound("r0;r0;", LINE + LINE, LINE + COMPANY + RAIN + LINE + COMPANY + RAIN);
        });
        Edges.edge("what it tells, and a ; behind it", () -> {
            for (String item : List.of("t9999", "r3", "c0,1,0,0,0,0")) {
                for (char sign = 32; sign <= 126; sign++) {
                    faultAt(sign == ';' ? NONE : 6, LINE + item + sign);
                }
                faulty(item, item + "r0;", item + " ;");
            }
        });
        Edges.edge("what it tells: all of it and no more", () -> {
            faulty("t;", "t", "r;", "r", "c;", "c", "c0;", "c0,1;", "c0,1,0;", "c0,1,0,0;", "c0,1,0,0,0;",
                    "c0,1,0,0,0,0,0;", "c0,1,0,0,0,0,;", "c0,1,0,0,0,;", "c,0,1,0,0,0,0;", "r1,1;", "r,1;", "r1,;");
            for (int length = 1; length < COMPANY.length(); length++) {
                faulty(COMPANY.substring(0, length));
            }
        });
        Edges.edge("parted by ,", () -> {
            for (int place = 2; place <= 10; place += 2) {
                for (char sign = 32; sign <= 126; sign++) {
                    StringBuilder item = new StringBuilder("c0,1,0,0,0,0;");
                    item.setCharAt(place, sign);
                    if (sign != ',' && (sign < '0' || sign > '9')) {
                        faulty(item.toString());
                    }
                }
                faulty(new StringBuilder("c0,1,0,0,0,0;").insert(place, ',').toString());
            }
            faulty("c0,,1,0,0,0;", "c01,0,0,0,0;", "c010000;", "c0 1 0 0 0 0;", "c0.1.0.0.0.0;");
        });
    }

    private static void figures() {
        Edges.edge("numbers: one or two figures (L)", () -> {
            sound(LINE + "c0,1,0,0,0,0;", LINE + "c00,1,0,0,0,0;", LINE + LINE + "c01,1,0,0,0,0;");
            faulty("c,1,0,0,0,0;", "c000,1,0,0,0,0;", "c+0,1,0,0,0,0;", "c-0,1,0,0,0,0;");
        });
        Edges.edge("numbers: one or two figures (H)", () -> {
            sound(LINE + "c0,1,0,0,0,0;", LINE + "c0,01,0,0,0,0;", LINE + "c0,20,0,0,0,0;");
            faulty("c0,,0,0,0,0;", "c0,001,0,0,0,0;", "c0,020,0,0,0,0;", "c0,100,0,0,0,0;", "c0,+1,0,0,0,0;");
        });
        Edges.edge("numbers: one or two figures (A, B, C, D)", () -> {
            String[] logs = {"c0,1,#,0,0,0;", "c0,1,0,#,0,0;", "c0,1,0,0,#,0;", "c0,1,0,0,0,#;"};
            for (String item : logs) {
                sound(LINE + item.replace("#", "0"), LINE + item.replace("#", "00"), LINE + item.replace("#", "07"));
                faulty(item.replace("#", ""), item.replace("#", "000"), item.replace("#", "007"));
                faulty(item.replace("#", "-1"), item.replace("#", " 1"), item.replace("#", "1 "));
            }
        });
        Edges.edge("numbers: one or two figures (R)", () -> {
            sound("r0;", "r00;", "r02;", "r3;", "r03;");
            faulty("r;", "r000;", "r003;", "r-1;", "r+1;", "r 1;", "r1 ;");
        });
        Edges.edge("a figure is 0 to 9: no sign beside it", () -> {
            for (char sign = 32; sign <= 126; sign++) {
                boolean figure = sign >= '0' && sign <= '9';
                for (int place = 0; place < 4; place++) {
                    StringBuilder row = new StringBuilder("0918");
                    row.setCharAt(place, sign);
                    faultAt(figure ? NONE : 3, RAIN + "t" + row + ";");
                }
                faultAt(sign >= '0' && sign <= '3' ? NONE : 0, "r" + sign + ";");
                faultAt(sign >= '0' && sign <= '3' ? NONE : sign == ';' ? 3 : 0, "r0" + sign + ";");
                faultAt(sign == '0' ? NONE : 0, "r" + sign + "3;");
                faultAt(figure ? NONE : 6, LINE + "c0,1" + sign + ",0,0,0,0;");
                faultAt(figure ? NONE : 6, LINE + "c0,1,0,0,0," + sign + ";");
            }
        });
        Edges.edge("a row: single figures, one next to the other", () -> {
            sound("t0000;", "t0123;", "t9876;");
            faulty("t000;", "t00000;", "t0,0,0,0;", "t00,00;", "t0 000;", "t;", "t0;", "t00;", "t,;", "t10000;",
                    "t0000,;");
        });
    }

    private static void lines() {
        Edges.edge("LINES R: 0 to 8 each, told ahead or not; 9: none", () -> {
            for (int figure = 0; figure <= 9; figure++) {
                sound("t" + figure + "999;", "t9" + figure + "99;", "t99" + figure + "9;", "t999" + figure + ";");
                sound("t" + times(4, String.valueOf(figure)) + ";");
            }
        });
        Edges.edge("a LINE: 9 at most", () -> {
            sound(times(8, LINE), times(9, LINE));
            faultAt(54, times(10, LINE));
            faultAt(54 + 3 + 13, times(9, LINE) + RAIN + COMPANY + LINE);
            faultAt(54, times(11, LINE));
        });
        Edges.edge("by WOOD 0, 1, 2, 3 LINES R come, in this order", () -> {
            Fires x = Fires.laid("t0123;t3210;t9999;t1032;c0,1,0,0,0,0;");
            int[][] want = {{0, 1, 2, 3}, {3, 2, 1, 0}, {NONE, NONE, NONE, NONE}, {1, 0, 3, 2}};
            for (int l = 0; l < 4; l++) {
                x.each("line " + l, want[l]);
            }
        });
    }

    private static void rains() {
        Edges.edge("it RAINS by R (0 to 3)", () -> {
            for (int r = 0; r <= 3; r++) {
                sound("r" + r + ";", "r0" + r + ";");
                Fires.laid("r" + r + ";" + LINE + COMPANY).due(r, "rain 0", "rain 1", "rain 99");
            }
            for (int r = 4; r <= 99; r++) {
                faulty("r" + r + ";");
            }
            faulty("r04;", "r09;");
        });
        Edges.edge("it RAINS: 8 at most", () -> {
            sound(times(7, "r3;"), times(8, "r3;"));
            faultAt(24, times(9, "r3;"));
            faultAt(24 + 6, times(8, "r1;") + LINE + "r1;");
            faultAt(32, times(8, "r01;") + "r1;");
        });
        Edges.edge("in hour 0 the first one, then the next, behind the last one the first again", () -> {
            String row = "31022013";
            for (int length = 1; length <= 8; length++) {
                StringBuilder text = new StringBuilder(LINE);
                for (int i = 0; i < length; i++) {
                    text.append('r').append(row.charAt(i)).append(';');
                }
                Fires x = Fires.laid(text + "c0,20,0,0,0,0;");
                for (int n = 0; n <= 99; n++) {
                    x.due(row.charAt(n % length) - '0', "rain " + n);
                }
                burnsBy(Fires.laid(text + "c0,20,0,0,0,0;"), row.substring(0, length));
            }
        });
        Edges.edge("0 alone without", () -> {
            Fires x = Fires.laid(LINE + "c0,20,0,0,0,0;");
            for (int n = 0; n <= 99; n++) {
                x.due(0, "rain " + n);
            }
            burnsBy(Fires.laid(LINE + "c0,20,0,0,0,0;"), "0");
        });
    }

    /** The hours themselves go round the row as rain(n) tells. */
    private static void burnsBy(Fires x, String row) {
        int hot = 20;
        for (int hour = 0; hour < 20; hour++) {
            int rain = row.charAt(hour % row.length()) - '0';
            x.due(rain, "rain 0").does("pass 1");
            hot = Math.max(0, hot - 1 - rain);
            x.due(hot, "company 0 0");
        }
    }

    private static void companies() {
        Edges.edge("a COMPANY whose FIRE is at LINE L (told ahead)", () -> {
            for (int n = 1; n <= 9; n++) {
                String told = times(n, LINE);
                sound(told + "c" + (n - 1) + ",1,0,0,0,0;", told + "c0,1,0,0,0,0;");
                faultAt(6 * n, told + "c" + n + ",1,0,0,0,0;");
                faultAt(6 * n, told + "c" + n + ",1,0,0,0,0;" + LINE);
            }
            faultAt(0, COMPANY);
            faultAt(3, RAIN + COMPANY + LINE);
            sound(LINE + COMPANY + LINE + "c1,1,0,0,0,0;");
            faultAt(54, times(9, LINE) + "c10,1,0,0,0,0;");
            faultAt(54, times(9, LINE) + "c99,1,0,0,0,0;");
        });
        Edges.edge("H (1 to 20) hot", () -> {
            for (int h = 1; h <= 20; h++) {
                Fires.laid(LINE + "c0," + h + ",0,0,0,0;").due(h, "company 0 0").due(1, "count 3");
            }
            faulty("c0,0,0,0,0,0;", "c0,00,0,0,0,0;");
            for (int h = 21; h <= 99; h++) {
                faulty("c0," + h + ",0,0,0,0;");
            }
        });
        Edges.edge("A, B, C, D LOGS (0 to 9 each) of WOOD 0 to 3", () -> {
            String[] logs = {"c0,1,#,0,0,0;", "c0,1,0,#,0,0;", "c0,1,0,0,#,0;", "c0,1,0,0,0,#;"};
            for (int wood = 0; wood < 4; wood++) {
                for (int n = 0; n <= 9; n++) {
                    Fires x = Fires.laid(LINE + logs[wood].replace("#", String.valueOf(n)));
                    x.due(n, "company 0 " + (2 + wood), "count 4");
                }
                for (int n = 10; n <= 99; n++) {
                    faulty(logs[wood].replace("#", String.valueOf(n)));
                }
            }
            Fires.laid(LINE + "c0,1,9,9,9,9;").stands(0, 1, 0, 9, 9, 9, 9, NONE, 0).due(36, "count 4");
        });
        Edges.edge("a COMPANY: 4 at most", () -> {
            sound(LINE + times(3, COMPANY), LINE + times(4, COMPANY));
            faultAt(58, LINE + times(5, COMPANY));
            faultAt(61, LINE + times(4, COMPANY) + RAIN + COMPANY);
            for (int n = 1; n <= 4; n++) {
                Fires.written(LINE + times(n, COMPANY)).due(n, "lay").due(n, "count 1");
            }
            Fires.written(LINE + times(5, COMPANY)).leaves(NO, "lay");
        });
        Edges.edge("the longest TEXT that tells a camp", () -> {
            String text = "t8888;" + times(8, "t0000;") + times(8, "r03;") + times(4, "c08,20,09,09,09,09;");
            Fires x = Fires.written(text).due(162, "count 9").due(NONE, "fault").due(4, "lay").due(144, "count 4");
            x.stands(3, 20, 8, 9, 9, 9, 9, NONE, 0).due(9, "count 0").due(3, "rain 7").due(8, "line 0 0");
        });
    }

    private static void faultPlaces() {
        Edges.edge("FAULT: the place (from 0 on) of the first letter of the ITEM", () -> {
            faultAt(0, "x");
            faultAt(3, "r1;x");
            faultAt(6, LINE + "t999;");
            faultAt(22, "r1;" + LINE + COMPANY + "t");
            faultAt(22, "r1;" + LINE + COMPANY + "c0,1,0,0,0,0");
            faultAt(88, FIRST + "r4;");
            faultAt(162, "t8888;" + times(8, "t0000;") + times(8, "r03;") + times(4, "c08,20,09,09,09,09;")
                    + times(38, "r"));
        });
        Edges.edge("FAULT: the first ITEM that is not so", () -> {
            faultAt(3, "r1;r4;r5;");
            faultAt(0, "r4;t99;c;");
            faultAt(6, LINE + "c1,1,0,0,0,0;r4;");
            faultAt(54, times(9, LINE) + LINE + "r4;");
            faultAt(54, times(9, LINE) + "r4;" + LINE);
        });
        Edges.edge("fault changes nothing", () -> {
            Fires.written("t1999;t0999;r3;c1,7,1,2,3,4;").leaves(NONE, "fault");
            Fires.written("t1999;t0999;r3;c2,7,1,2,3,4;").leaves(15, "fault");
            Fires busy = new Fires().does("put 0 0", "pass 1", "see 2", "keep").writes("t9;");
            busy.leaves(0, "fault");
        });
    }

    /** Something stands in all that lay() could touch. */
    private static Fires busy() {
        return Fires.laid("t1111;t0000;r1;r0;c0,9,3,2,1,2;c1,5,1,4,2,0;")
                .does("put 0 0", "keep", "pass 1", "see 3", "hand 0 1 1", "keep", "put 1 1", "see 0");
    }

    private static void laid() {
        Edges.edge("LAID is a TEXT without FAULT; lay: NO", () -> {
            for (String text : List.of("x", LINE + COMPANY + "x", LINE + COMPANY + "r4;", LINE + COMPANY + "r1",
                    "r1" + LINE + COMPANY, COMPANY + LINE, LINE + "c0,21,0,0,0,0;")) {
                busy().writes(text).leaves(NO, "lay");
            }
        });
        Edges.edge("LAID: of a COMPANY at least", () -> {
            for (String text : List.of("", LINE, RAIN, LINE + RAIN, times(9, LINE))) {
                busy().writes(text).leaves(NO, "lay");
            }
            busy().writes(LINE + COMPANY).due(1, "lay").due(1, "count 1");
        });
        Edges.edge("LAID: all LINES that are named being told", () -> {
            String[] rows = {"t#999;", "t9#99;", "t99#9;", "t999#;"};
            for (int n = 1; n <= 8; n++) {
                for (String row : rows) {
                    String own = row.replace("#", String.valueOf(n));
                    String lower = row.replace("#", String.valueOf(n - 1));
                    Fires.written(own + times(n - 1, LINE) + COMPANY).due(NONE, "fault").leaves(NO, "lay");
                    Fires.written(times(n - 1, LINE) + own + COMPANY).due(NONE, "fault").due(NO, "lay");
                    Fires.written(own + times(n, LINE) + COMPANY).due(1, "lay");
                    Fires.written(lower + times(n - 1, LINE) + COMPANY).due(1, "lay");
                }
            }
            Fires.written(times(8, LINE) + "t8888;" + COMPANY).due(1, "lay");
        });
        Edges.edge("LAID: told ahead or not", () -> {
            Fires.written("t1999;" + COMPANY).due(NO, "lay").writes(LINE).due(1, "lay").due(1, "line 0 0");
            Fires.written("t8999;" + COMPANY + times(8, LINE)).due(1, "lay").due(8, "line 0 0");
            Fires.written("t8999;" + COMPANY + times(7, LINE)).due(NO, "lay");
        });
        Edges.edge("lay: hour 0, nothing PUT ON, TOLD, SEEN, UNDONE, KEPT; THE TEXT stays", () -> {
            String text = "t1111;t0000;r1;r0;c0,9,3,2,1,2;c1,5,1,4,2,0;";
            Fires x = busy().writes(text).due(44, "count 9").due(2, "lay").due(44, "count 9");
            x.each("count", 2, 2, 0, 2, 15, 0, 0, 0, 0, 44).due(NO, "undo", "back").due(0, "forget");
            x.due(NONE, "company 0 6", "company 1 6").due(1, "rain 0").due(2, "lay").due(44, "wipe");
            Fires.same(x, Fires.laid(text));
        });
        Edges.edge("lay: a TEXT that is LAID again begins again", () -> {
            Fires x = Fires.written(LINE + "c0,9,1,1,1,1;").does("lay", "put 0 0", "pass 3", "see 1", "keep");
            Fires.same(x.does("lay"), Fires.written(LINE + "c0,9,1,1,1,1;").does("lay"));
        });
        Edges.edge("lay: fewer LINES, rains, COMPANIES than ahead of it", () -> {
            Fires x = new Fires().writes(LINE + "c0,20,1,2,3,4;").due(1, "lay");
            x.due(BAD, "line 1 0", "company 1 0", "put 1 0").due(0, "rain 1", "rain 3").due(10, "count 4");
            x.stands(0, 20, 0, 1, 2, 3, 4, NONE, 0).due(1, "can 0").due(1, "count 0");
        });
        Edges.edge("LAID at first: NO else, so nothing of a refused TEXT is left in a later one", () -> {
            Fires x = Fires.written("t1111;t0000;r3;c1,3,1,1,1,1;x").due(NO, "lay").does("wipe");
            x.writes(LINE + "c0,4,0,0,0,1;").due(1, "lay").due(1, "count 0").due(0, "rain 0");
            x.stands(0, 4, 0, 0, 0, 0, 1, NONE, 0);
        });
    }

    private static void newObject() {
        Edges.edge("A new object: as told; THE TEXT is empty", () -> {
            Fires x = new Fires().each("count", 6, 3, 0, 3, 21, 0, 0, 0, 0, 0).due(0, "wipe").due(NONE, "fault");
            x.due(NO, "undo", "back", "lay").due(0, "forget");
            Fires.same(new Fires(), Fires.laid(FIRST));
            Fires.same(new Fires(), Fires.written(FIRST).does("wipe"));
        });
        Edges.edge("A new object: nothing is shared with another one", () -> {
            Fires one = new Fires();
            Fires other = new Fires();
            one.does("put 0 0", "pass 5", "see 1", "keep").writes(LINE + COMPANY).does("lay");
            Fires.same(other, new Fires());
            other.stands(0, 9, 0, 3, 2, 1, 2, NONE, 0).due(0, "count 9");
        });
    }

    private static void lineCall() {
        Edges.edge("line: a LINE, a WOOD 0 to 3; BAD", () -> {
            for (int n = 1; n <= 9; n++) {
                Fires x = Fires.laid(times(n, "t0000;") + COMPANY);
                x.due(0, "line 0 0", "line 0 3", "line " + (n - 1) + " 0", "line " + (n - 1) + " 3");
                x.due(BAD, Fires.with("line # 0", Fires.outside(0, n - 1)));
                x.due(BAD, Fires.with("line # 3", Fires.outside(0, n - 1)));
                x.due(BAD, Fires.with("line " + (n - 1) + " #", Fires.outside(0, 3)));
            }
            Fires.laid(LINE + COMPANY).leaves(BAD, "line 1 0", "line -1 0", "line 0 4", "line 0 -1", "line 9 9");
        });
        Edges.edge("line: NONE; of several BAD is first", () -> {
            Fires x = Fires.laid("t0999;t1919;c0,1,0,0,0,0;")
                    .leaves(NONE, "line 0 1", "line 0 3", "line 1 1", "line 1 3");
            x.due(0, "line 0 0").due(1, "line 1 0", "line 1 2").due(BAD, "line 1 4", "line 2 1");
        });
    }

    private static void rainCall() {
        Edges.edge("rain: behind n HOURS (0 to 99); BAD", () -> {
            Fires x = Fires.laid(LINE + "r2;r1;r3;c0,20,0,0,0,0;").due(2, "rain 0", "rain 99").due(3, "rain 98");
            x.leaves(BAD, Fires.with("rain #", Fires.outside(0, 99))).leaves(2, "rain 0");
            x.does("pass 24", "pass 24", "pass 24", "pass 24", "pass 4").due(1, "rain 0").due(3, "rain 1");
            x.due(2, "rain 2").due(1, "rain 99").leaves(BAD, "rain 100", "rain -1");
        });
        Edges.edge("rain: at the hours gone by the row begins again", () -> {
            Fires x = Fires.laid(LINE + times(7, "r0;") + "r3;c0,1,0,0,0,0;");
            for (int hour = 0; hour < 40; hour++) {
                x.due(hour % 8 == 7 ? 3 : 0, "rain 0").due(hour % 8 == 6 ? 3 : 0, "rain 1", "rain 97").does("pass 1");
            }
        });
    }

    private static void companyCall() {
        Edges.edge("company: a COMPANY, what 0 to 7; BAD", () -> {
            for (int n = 1; n <= 4; n++) {
                Fires x = Fires.laid(LINE + times(n, "c0,2,1,1,1,1;"));
                x.stands(0, 2, 0, 1, 1, 1, 1, NONE, 0).stands(n - 1, 2, 0, 1, 1, 1, 1, NONE, 0);
                x.leaves(BAD, Fires.with("company # 0", n, -1))
                        .due(BAD, Fires.with("company # 7", Fires.outside(0, n - 1)));
                x.due(BAD, Fires.with("company " + (n - 1) + " #", Fires.outside(0, 7)));
            }
        });
        Edges.edge("company: at which LINE (NONE: OUT), the WOOD PUT ON last (NONE)", () -> {
            Fires x = Fires.laid("t0000;c0,1,1,1,1,1;c0,2,1,1,1,1;").leaves(0, "company 0 1")
                    .leaves(NONE, "company 0 6");
            x.does("put 0 0").leaves(0, "company 0 6").does("put 0 3").due(3, "company 0 6");
            x.does("pass 5").stands(0, 1, 0, 0, 1, 1, 0, 3, 2).stands(1, 0, NONE, 1, 1, 1, 1, NONE, 0);
            x.does("pass 1").stands(0, 0, NONE, 0, 1, 1, 0, NONE, 2).due(0, "count 3");
        });
        Edges.edge("company: each COMPANY by its own numbers", () -> {
            Fires x = Fires.laid(times(4, LINE) + "c3,1,2,3,4,5;c2,6,7,8,9,0;c1,11,1,2,3,4;c0,20,5,6,7,8;");
            x.stands(0, 1, 3, 2, 3, 4, 5, NONE, 0).stands(1, 6, 2, 7, 8, 9, 0, NONE, 0);
            x.stands(2, 11, 1, 1, 2, 3, 4, NONE, 0).stands(3, 20, 0, 5, 6, 7, 8, NONE, 0);
        });
    }
}
