/** Each promise of the document by hand-made runs: ordinary inputs, the edges that it names, wrong inputs. */
public final class PromisesTest {
    private static final int BAD = -1, NO = -2, FULL = -3, NONE = -4;
    private static final String FIRST =
            "t1203;t2194;t4330;t0952;t5149;t9995;r0;r1;r0;r2;c0,9,3,2,1,2;c2,5,1,4,2,0;c0,12,0,0,3,3;";
    private static final int[] WRONG = {-1, 99999, Integer.MIN_VALUE, Integer.MAX_VALUE};

    private static int wrong = 0;
    private static String promise = "";

    public static void main(String[] args) {
        constants();
        newObject();
        write();
        wipe();
        fault();
        lay();
        line();
        rain();
        company();
        put();
        pass();
        light();
        join();
        hand();
        undo();
        lasts();
        stays();
        tell();
        meet();
        can();
        give();
        see();
        forget();
        from();
        rows();
        rains();
        winter();
        keep();
        back();
        count();
        System.out.println(wrong == 0 ? "all promises hold" : wrong + " answers are wrong");
        if (wrong != 0) {
            System.exit(1);
        }
    }

    private static void due(String call, int got, int want) {
        if (got != want) {
            wrong++;
            System.out.println(promise + ": " + call + " answered " + got + ", due is " + want);
        }
    }

    private static void type(EmberTale x, String text) {
        for (int i = 0; i < text.length(); i++) {
            x.write(text.charAt(i));
        }
    }

    private static int faultOf(String text) {
        EmberTale x = new EmberTale();
        type(x, text);
        return x.fault();
    }

    private static int layOf(String text) {
        EmberTale x = new EmberTale();
        type(x, text);
        return x.lay();
    }

    private static EmberTale laid(String text) {
        EmberTale x = new EmberTale();
        type(x, text);
        due("lay of " + text, x.lay() > 0 ? 1 : 0, 1);
        x.wipe();
        return x;
    }

    /** How hot, which line, logs of wood 0 to 3, last wood, lines told. */
    private static void stands(EmberTale x, int c, int... want) {
        for (int what = 0; what < 8; what++) {
            due("company(" + c + ", " + what + ")", x.company(c, what), want[what]);
        }
    }

    private static void constants() {
        promise = "constants";
        due("BAD", EmberTale.BAD, -1);
        due("NO", EmberTale.NO, -2);
        due("FULL", EmberTale.FULL, -3);
        due("NONE", EmberTale.NONE, -4);
    }

    private static void newObject() {
        promise = "1 A new object";
        EmberTale x = new EmberTale();
        int[] counts = {6, 3, 0, 3, 21, 0, 0, 0, 0, 0};
        for (int what = 0; what < counts.length; what++) {
            due("count(" + what + ")", x.count(what), counts[what]);
        }
        due("fault", x.fault(), NONE);
        due("wipe", x.wipe(), 0);
        int[][] lines = {{1, 2, 0, 3}, {2, 1, NONE, 4}, {4, 3, 3, 0}, {0, NONE, 5, 2}, {5, 1, 4, NONE},
            {NONE, NONE, NONE, 5}};
        for (int l = 0; l < 6; l++) {
            for (int wood = 0; wood < 4; wood++) {
                due("line(" + l + ", " + wood + ")", x.line(l, wood), lines[l][wood]);
            }
        }
        int[] rain = {0, 1, 0, 2, 0, 1, 0, 2};
        for (int n = 0; n < rain.length; n++) {
            due("rain(" + n + ")", x.rain(n), rain[n]);
        }
        stands(x, 0, 9, 0, 3, 2, 1, 2, NONE, 0);
        stands(x, 1, 5, 2, 1, 4, 2, 0, NONE, 0);
        stands(x, 2, 12, 0, 0, 0, 3, 3, NONE, 0);
        due("undo", x.undo(), NO);
        due("back", x.back(), NO);
        due("forget", x.forget(), 0);
        due("lay of no text", x.lay(), NO);
        due("company(2, 0)", x.company(2, 0), 12);
    }

    private static void write() {
        promise = "2 write";
        EmberTale x = new EmberTale();
        due("write(31)", x.write(31), BAD);
        due("write(127)", x.write(127), BAD);
        due("write(32)", x.write(32), 1);
        due("write(126)", x.write(126), 2);
        for (int letter : WRONG) {
            due("write(" + letter + ")", x.write(letter), BAD);
        }
        for (int n = 3; n <= 200; n++) {
            due("write", x.write('a'), n);
        }
        due("write behind 200", x.write('a'), FULL);
        due("write(31) behind 200", x.write(31), BAD);
        due("count(9)", x.count(9), 200);
    }

    private static void wipe() {
        promise = "3 wipe";
        EmberTale x = new EmberTale();
        type(x, "t1");
        due("fault", x.fault(), 0);
        due("wipe", x.wipe(), 2);
        due("wipe again", x.wipe(), 0);
        due("fault", x.fault(), NONE);
        due("write", x.write('r'), 1);
        due("count(1)", x.count(1), 3);
    }

    private static void fault() {
        promise = "4 fault";
        String[] sound = {"", FIRST, "t0000;", "t9999;", "t8888;", "r0;", "r3;", "r03;", "r00;",
            "t9999;c0,1,0,0,0,0;", "t9999;c00,20,9,09,0,00;", "t9999;t9999;c1,01,9,9,9,9;",
            "r1;r2;r3;r0;r1;r2;r3;r0;",
            "t9999;t9999;t9999;t9999;t9999;t9999;t9999;t9999;t9999;c8,1,0,0,0,0;",
            "t9999;c0,1,0,0,0,0;c0,1,0,0,0,0;c0,1,0,0,0,0;c0,1,0,0,0,0;"};
        for (String text : sound) {
            due("fault of " + text, faultOf(text), NONE);
        }
        String[] atOnce = {"x", ";", " ", "T0000;", "t", "t000", "t0000", "t00000;", "t000;", "t0,0,0,0;", "t 0000;",
            "t000a;", "r", "r;", "r4;", "r3", "r10;", "r003;", "r-1;", "ra;", "r1,;", "r1,1;", "R1;",
            "c0,1,0,0,0,0;", "c;", "tt0000;", "t0000,", ",", "t00/0;", "t00:0;"};
        for (String text : atOnce) {
            due("fault of " + text, faultOf(text), 0);
        }
        String[] company = {"c1,1,0,0,0,0;", "c0,0,0,0,0,0;", "c0,21,0,0,0,0;", "c0,1,10,0,0,0;", "c0,1,0,10,0,0;",
            "c0,1,0,0,10,0;", "c0,1,0,0,0,10;", "c0,1,0,0,0;", "c0,1,0,0,0,0,0;", "c0,1,0,0,0,0", "c0,1,0,0,0,0,",
            "c0,1,0,0,0,;", "c,1,0,0,0,0;", "c0;1,0,0,0,0;", "c000,1,0,0,0,0;", "c0,001,0,0,0,0;", "c0,1,0,0,0,000;",
            "c0,1,-1,0,0,0;", "c0 ,1,0,0,0,0;", "c9,1,0,0,0,0;", "C0,1,0,0,0,0;", "c0,99,0,0,0,0;", "c010000;"};
        for (String text : company) {
            due("fault of t9999;" + text, faultOf("t9999;" + text), 6);
        }
        due("a line told behind", faultOf("t9999;c1,1,0,0,0,0;t9999;"), 6);
        due("a tenth line", faultOf("t0000;t0000;t0000;t0000;t0000;t0000;t0000;t0000;t0000;t0000;"), 54);
        due("a ninth rain", faultOf("r0;r0;r0;r0;r0;r0;r0;r0;r0;"), 24);
        due("a fifth company",
            faultOf("t9999;c0,1,0,0,0,0;c0,1,0,0,0,0;c0,1,0,0,0,0;c0,1,0,0,0,0;c0,1,0,0,0,0;"), 58);
        due("the first of two faults", faultOf("r1;r2;r4;t12;"), 6);
        due("an item without its end", faultOf("r1;r2"), 3);
        due("a line that is never told", faultOf("t8999;"), NONE);
        EmberTale x = new EmberTale();
        type(x, "t9999;r3;c0,1,1,1,1,1;");
        due("fault", x.fault(), NONE);
        due("count(0), which fault leaves", x.count(0), 6);
        due("rain(0), which fault leaves", x.rain(0), 0);
        due("company(0, 0), which fault leaves", x.company(0, 0), 9);
        due("count(9), which fault leaves", x.count(9), 22);
    }

    private static void lay() {
        promise = "5 lay";
        due("lay of nothing", layOf(""), NO);
        due("lay without a company", layOf("t9999;r1;"), NO);
        due("lay of a fault", layOf("t9999;c0,1,0,0,0,0;x"), NO);
        due("lay of a line not told", layOf("t9991;c0,1,0,0,0,0;"), NO);
        due("lay of a line told behind", layOf("t9991;c0,1,0,0,0,0;t9999;"), 1);
        due("lay of a line just not told", layOf("t2999;t9999;c0,1,0,0,0,0;"), NO);
        due("lay of the first one", layOf(FIRST), 3);
        due("lay of four", layOf("t9999;c0,1,0,0,0,0;c0,1,0,0,0,0;c0,1,0,0,0,0;c0,1,0,0,0,0;"), 4);
        EmberTale x = new EmberTale();
        x.put(0, 0);
        x.pass(2);
        x.see(1);
        x.keep();
        x.keep();
        type(x, "t1999;t0999;t9999;r2;c1,7,1,2,3,4;c0,20,9,9,9,9;");
        due("lay", x.lay(), 2);
        int[] counts = {3, 2, 0, 2, 46, 0, 0, 0, 0, 48};
        for (int what = 0; what < counts.length; what++) {
            due("count(" + what + ")", x.count(what), counts[what]);
        }
        stands(x, 0, 7, 1, 1, 2, 3, 4, NONE, 0);
        stands(x, 1, 20, 0, 9, 9, 9, 9, NONE, 0);
        due("company(2, 0)", x.company(2, 0), BAD);
        due("line(0, 0)", x.line(0, 0), 1);
        due("line(3, 0)", x.line(3, 0), BAD);
        due("rain(0)", x.rain(0), 2);
        due("undo", x.undo(), NO);
        due("back", x.back(), NO);
        refusedLay(x);
        due("lay again", x.put(0, 0), 0);
    }

    private static void refusedLay(EmberTale x) {
        x.put(0, 1);
        x.pass(1);
        x.see(3);
        x.keep();
        x.write('x');
        due("lay of a fault", x.lay(), NO);
        int[] counts = {3, 2, 1, 2, 45, 0, 1, 2, 1, 49};
        for (int what = 0; what < counts.length; what++) {
            due("count(" + what + ") behind NO", x.count(what), counts[what]);
        }
        due("wipe", x.wipe(), 49);
        type(x, "t0000;r1;");
        due("lay without a company", x.lay(), NO);
        due("rain(0) behind NO", x.rain(0), 2);
        due("line(1, 0) behind NO", x.line(1, 0), 0);
        x.back();
    }

    private static void line() {
        promise = "6 line";
        EmberTale x = laid("t0123;t9876;t8889;t3333;t4444;t5555;t6666;t7777;t0008;c0,1,0,0,0,0;");
        due("line(0, 0)", x.line(0, 0), 0);
        due("line(0, 3)", x.line(0, 3), 3);
        due("line(1, 0)", x.line(1, 0), NONE);
        due("line(1, 1)", x.line(1, 1), 8);
        due("line(2, 3)", x.line(2, 3), NONE);
        due("line(8, 3)", x.line(8, 3), 8);
        due("line(9, 0)", x.line(9, 0), BAD);
        due("line(0, 4)", x.line(0, 4), BAD);
        for (int number : WRONG) {
            due("line(" + number + ", 0)", x.line(number, 0), BAD);
            due("line(0, " + number + ")", x.line(0, number), BAD);
        }
    }

    private static void rain() {
        promise = "7 rain";
        EmberTale x = laid("t9999;r3;r1;r2;c0,20,0,0,0,0;");
        int[] amounts = {3, 1, 2};
        for (int n = 0; n <= 99; n++) {
            due("rain(" + n + ")", x.rain(n), amounts[n % 3]);
        }
        due("rain(100)", x.rain(100), BAD);
        x.pass(2);
        due("rain(0) behind 2 hours", x.rain(0), 2);
        due("rain(1) behind 2 hours", x.rain(1), 3);
        due("rain(99) behind 2 hours", x.rain(99), 2);
        x.pass(23);
        due("rain(0) behind 25 hours", x.rain(0), 1);
        EmberTale dry = laid("t9999;c0,20,0,0,0,0;");
        due("rain(0), none told", dry.rain(0), 0);
        due("rain(99), none told", dry.rain(99), 0);
        for (int number : WRONG) {
            due("rain(" + number + ")", x.rain(number), BAD);
            due("rain(" + number + "), none told", dry.rain(number), BAD);
        }
        EmberTale eight = laid("t9999;r0;r1;r2;r3;r3;r2;r1;r0;c0,20,0,0,0,0;");
        int[] all = {0, 1, 2, 3, 3, 2, 1, 0, 0, 1};
        for (int n = 0; n < all.length; n++) {
            due("rain(" + n + ") of eight", eight.rain(n), all[n]);
        }
    }

    private static void company() {
        promise = "8 company";
        EmberTale x = laid("t1999;t9999;c0,2,1,2,3,4;c1,20,9,8,7,6;");
        stands(x, 0, 2, 0, 1, 2, 3, 4, NONE, 0);
        stands(x, 1, 20, 1, 9, 8, 7, 6, NONE, 0);
        x.put(0, 0);
        stands(x, 0, 6, 1, 0, 2, 3, 4, 0, 1);
        x.pass(6);
        stands(x, 0, 0, NONE, 0, 2, 3, 4, NONE, 1);
        due("company(2, 0)", x.company(2, 0), BAD);
        due("company(0, 8)", x.company(0, 8), BAD);
        for (int number : WRONG) {
            due("company(" + number + ", 0)", x.company(number, 0), BAD);
            due("company(0, " + number + ")", x.company(0, number), BAD);
        }
    }

    private static void put() {
        promise = "9 put";
        EmberTale x = laid("t1239;t9919;t0000;t3333;r3;c0,3,1,1,2,1;c0,19,2,2,2,2;c1,2,0,0,1,0;c1,8,0,0,0,0;");
        due("put OAK", x.put(0, 0), 1);
        stands(x, 0, 7, 1, 0, 1, 2, 1, 0, 1);
        due("put OAK, no such log", x.put(0, 0), NO);
        due("put WET, a line behind itself", x.put(0, 2), 1);
        stands(x, 0, 5, 1, 0, 1, 1, 1, 2, 2);
        due("put PINE, no line behind", x.put(0, 1), 1);
        stands(x, 0, 11, 1, 0, 0, 1, 1, 1, 2);
        due("put GREEN, no line behind", x.put(0, 3), 1);
        stands(x, 0, 12, 1, 0, 0, 1, 0, 3, 2);
        due("put PINE, 20 at most", x.put(1, 1), 2);
        stands(x, 1, 20, 2, 2, 1, 2, 2, 1, 1);
        due("put WET at 20", x.put(1, 2), 0);
        stands(x, 1, 18, 0, 2, 1, 1, 2, 2, 2);
        due("put WET, out by it", x.put(2, 2), NONE);
        stands(x, 2, 0, NONE, 0, 0, 0, 0, NONE, 0);
        due("put, out", x.put(2, 2), NO);
        due("put, no logs", x.put(3, 0), NO);
        due("count(7)", x.count(7), 7);
        for (int number : WRONG) {
            due("put(" + number + ", 0)", x.put(number, 0), BAD);
            due("put(0, " + number + ")", x.put(0, number), BAD);
        }
        due("put(4, 0)", x.put(4, 0), BAD);
        due("put(0, 4)", x.put(0, 4), BAD);
        due("put(2, 4), out", x.put(2, 4), BAD);
        EmberTale one = laid("t0000;c0,1,0,0,1,0;c0,3,1,0,1,0;");
        due("put WET at 1", one.put(0, 2), NONE);
        stands(one, 0, 0, NONE, 0, 0, 0, 0, NONE, 0);
        due("put WET at 3", one.put(1, 2), 0);
        due("company(1, 0)", one.company(1, 0), 1);
    }

    private static void pass() {
        promise = "10 pass";
        EmberTale x = laid("t9999;r1;r0;r3;c0,20,1,1,1,1;c0,14,1,1,1,1;c0,15,1,1,1,1;c0,3,1,1,1,1;");
        x.put(1, 1);
        x.put(2, 3);
        x.put(3, 0);
        due("pass(1)", x.pass(1), 4);
        hot(x, 18, 17, 15, 5);
        due("pass(1)", x.pass(1), 4);
        hot(x, 17, 15, 14, 4);
        due("pass(1)", x.pass(1), 3);
        hot(x, 13, 10, 13, 0);
        stands(x, 3, 0, NONE, 0, 1, 1, 1, NONE, 0);
        due("count(2)", x.count(2), 3);
        due("pass(3)", x.pass(3), 2);
        hot(x, 6, 0, 10, 0);
        due("count(7)", x.count(7), 7);
        due("pass(24)", x.pass(24), 0);
        due("count(2)", x.count(2), 30);
        due("pass, all OUT", x.pass(1), 0);
        due("count(2)", x.count(2), 31);
        due("pass(0)", x.pass(0), BAD);
        due("pass(25)", x.pass(25), BAD);
        for (int number : WRONG) {
            due("pass(" + number + ")", x.pass(number), BAD);
        }
        due("count(2)", x.count(2), 31);
        wetBurns();
    }

    private static void wetBurns() {
        EmberTale x = laid("t9999;r1;c0,9,1,1,1,1;c0,9,1,1,1,1;c0,9,0,0,0,0;");
        x.put(0, 1);
        x.put(0, 2);
        x.put(1, 3);
        x.put(1, 0);
        due("pass(2)", x.pass(2), 3);
        hot(x, 9, 10, 5);
    }

    private static void hot(EmberTale x, int... want) {
        for (int c = 0; c < want.length; c++) {
            due("company(" + c + ", 0)", x.company(c, 0), want[c]);
        }
    }

    private static void light() {
        promise = "11 light";
        EmberTale x = laid("t1111;t1111;t1111;c2,5,0,1,0,0;c0,1,1,0,0,0;c1,4,0,0,0,0;");
        due("light of one that is IN", x.light(1, 0), NO);
        x.pass(1);
        due("light from 3 hot", x.light(1, 2), NO);
        due("light from 4 hot", x.light(1, 0), 2);
        stands(x, 1, 3, 2, 1, 0, 0, 0, NONE, 0);
        stands(x, 0, 3, 2, 0, 1, 0, 0, NONE, 0);
        due("count(3)", x.count(3), 3);
        due("count(7)", x.count(7), 2);
        x.pass(3);
        due("light from one that is OUT", x.light(0, 1), NO);
        EmberTale y = laid("t0000;c0,9,0,1,0,1;c0,1,0,1,0,0;");
        y.put(0, 3);
        y.put(1, 1);
        y.pass(4);
        due("light", y.light(1, 0), 0);
        stands(y, 0, 5, 0, 0, 1, 0, 0, 3, 1);
        stands(y, 1, 3, 0, 0, 0, 0, 0, NONE, 1);
        due("lasts(1), no PINE on it", y.lasts(1), 3);
        due("light(0, 0)", x.light(0, 0), BAD);
        due("light(0, 3)", x.light(0, 3), BAD);
        for (int number : WRONG) {
            due("light(" + number + ", 0)", x.light(number, 0), BAD);
            due("light(0, " + number + ")", x.light(0, number), BAD);
        }
    }

    private static void join() {
        promise = "12 join";
        EmberTale x = laid("t1111;t0000;t2222;c2,12,9,1,2,3;c1,11,4,3,2,1;c0,1,0,0,0,0;");
        x.put(0, 1);
        x.put(1, 0);
        due("join", x.join(0, 1), 0);
        stands(x, 0, 20, 0, 12, 3, 4, 4, 1, 1);
        stands(x, 1, 0, NONE, 0, 0, 0, 0, NONE, 1);
        due("join with one that is OUT", x.join(0, 1), NO);
        due("join of one that is OUT", x.join(1, 0), NO);
        due("join", x.join(2, 0), 0);
        stands(x, 2, 20, 0, 12, 3, 4, 4, NONE, 0);
        stands(x, 0, 0, NONE, 0, 0, 0, 0, NONE, 1);
        due("count(7)", x.count(7), 4);
        EmberTale y = laid("t9999;t9999;c1,9,0,0,0,0;c0,10,0,0,0,0;c1,1,0,0,0,0;");
        due("join, the second line lower", y.join(0, 1), 0);
        due("company(0, 0)", y.company(0, 0), 19);
        due("join, the first line lower", y.join(0, 2), 0);
        due("company(0, 0)", y.company(0, 0), 20);
        due("join(1, 1)", y.join(1, 1), BAD);
        due("join(0, 3)", y.join(0, 3), BAD);
        for (int number : WRONG) {
            due("join(" + number + ", 0)", y.join(number, 0), BAD);
            due("join(0, " + number + ")", y.join(0, number), BAD);
        }
    }

    private static void hand() {
        promise = "13 hand";
        EmberTale x = laid("t9999;c0,1,1,0,9,0;c0,2,0,0,9,0;");
        due("hand", x.hand(0, 1, 0), 1);
        due("hand, no such log", x.hand(0, 1, 0), NO);
        for (int n = 1; n <= 9; n++) {
            due("hand", x.hand(1, 0, 2), 9 + n);
        }
        due("hand, no such log", x.hand(1, 0, 2), NO);
        stands(x, 0, 1, 0, 0, 0, 18, 0, NONE, 0);
        stands(x, 1, 2, 0, 1, 0, 0, 0, NONE, 0);
        x.pass(1);
        due("hand of one that is OUT", x.hand(0, 1, 2), 1);
        x.pass(1);
        due("hand, both OUT", x.hand(1, 0, 2), 18);
        due("hand(0, 0, 2)", x.hand(0, 0, 2), BAD);
        due("hand(0, 2, 2)", x.hand(0, 2, 2), BAD);
        due("hand(0, 1, 4)", x.hand(0, 1, 4), BAD);
        for (int number : WRONG) {
            due("hand(" + number + ", 0, 2)", x.hand(number, 0, 2), BAD);
            due("hand(0, " + number + ", 2)", x.hand(0, number, 2), BAD);
            due("hand(0, 1, " + number + ")", x.hand(0, 1, number), BAD);
        }
    }

    private static void undo() {
        promise = "14 undo";
        EmberTale x = laid("t1111;t0000;r2;c0,9,3,1,0,0;c1,2,1,1,1,1;");
        due("undo, nothing done", x.undo(), NO);
        x.put(0, 0);
        x.pass(3);
        x.light(1, 0);
        x.join(0, 1);
        x.hand(0, 1, 1);
        x.put(1, 0);
        x.see(2);
        due("undo of hand", x.undo(), 4);
        stands(x, 0, 6, 1, 3, 2, 1, 1, 0, 1);
        due("undo of join", x.undo(), 3);
        stands(x, 0, 3, 1, 2, 1, 0, 0, 0, 1);
        stands(x, 1, 3, 1, 1, 1, 1, 1, NONE, 0);
        due("undo of light", x.undo(), 2);
        stands(x, 0, 4, 1, 2, 1, 0, 0, 0, 1);
        stands(x, 1, 0, NONE, 1, 1, 1, 1, NONE, 0);
        due("count(2)", x.count(2), 3);
        due("undo of hours", x.undo(), 1);
        due("count(2)", x.count(2), 0);
        stands(x, 0, 13, 1, 2, 1, 0, 0, 0, 1);
        stands(x, 1, 2, 1, 1, 1, 1, 1, NONE, 0);
        due("undo of put", x.undo(), 0);
        stands(x, 0, 9, 0, 3, 1, 0, 0, NONE, 0);
        due("undo, nothing left", x.undo(), NO);
        due("count(6), seen stays", x.count(6), 1);
        due("count(5)", x.count(5), 0);
        for (int n = 1; n <= 11; n++) {
            x.pass(1);
            due("count(7)", x.count(7), Math.min(8, n));
        }
        for (int n = 7; n >= 0; n--) {
            due("undo", x.undo(), n);
        }
        due("undo, eight at most", x.undo(), NO);
        due("count(2)", x.count(2), 3);
        x.pass(24);
        x.pass(1);
        due("undo", x.undo(), 1);
        due("count(2)", x.count(2), 27);
    }

    private static void lasts() {
        promise = "15 lasts";
        EmberTale x = laid("t0000;r3;r0;c0,20,0,0,0,1;c0,20,0,1,0,0;c0,1,0,0,0,0;c0,5,0,0,0,0;");
        due("lasts(0)", x.lasts(0), 8);
        due("lasts(2)", x.lasts(2), 1);
        due("lasts(3)", x.lasts(3), 2);
        x.put(0, 3);
        x.put(1, 1);
        due("lasts(0), GREEN", x.lasts(0), 20);
        due("lasts(1), PINE", x.lasts(1), 6);
        x.pass(1);
        due("lasts(0)", x.lasts(0), 19);
        due("lasts(1)", x.lasts(1), 5);
        due("lasts(2), OUT", x.lasts(2), 0);
        due("lasts(3), an hour on", x.lasts(3), 1);
        due("lasts(4)", x.lasts(4), BAD);
        for (int number : WRONG) {
            due("lasts(" + number + ")", x.lasts(number), BAD);
        }
        EmberTale dry = laid("t9999;c0,20,9,9,9,9;");
        due("lasts(0), no rain", dry.lasts(0), 20);
    }

    /** How many logs, then what is put on ahead of each hour. */
    private static void stayWay(EmberTale x, int c, int... want) {
        int n = want.length - 1;
        for (int k = -1; k < n; k++) {
            due("stays(" + c + ", " + n + ", " + k + ")", x.stays(c, n, k), want[k + 1]);
        }
        due("stays, k too high", x.stays(c, n, n), NONE);
        due("stays, k too high", x.stays(c, n, Integer.MAX_VALUE), NONE);
    }

    private static void stays() {
        promise = "16 stays";
        EmberTale x = laid("t9999;r3;c0,20,1,1,0,1;c0,20,1,1,0,0;c0,1,9,9,9,9;c0,4,0,0,9,0;");
        stayWay(x, 0, 0, NONE, NONE, NONE, NONE);
        stayWay(x, 0, 1, 3, NONE, NONE, NONE, NONE, NONE);
        stayWay(x, 1, 2, NONE, 0, NONE, 1, NONE, NONE);
        stayWay(x, 2, 1, 0);
        stayWay(x, 2, 2, 0, 0);
        stayWay(x, 2, 2, 1, 3, NONE);
        stayWay(x, 3, NONE, NONE);
        stayWay(x, 3, NONE, NONE, NONE, NONE, NONE, NONE, NONE);
        EmberTale pine = laid("t9999;c0,1,0,1,1,0;c0,1,0,0,0,0;");
        stayWay(pine, 0, 1, 1, NONE, NONE);
        pine.put(0, 1);
        stayWay(pine, 0, 0, NONE, NONE, NONE);
        stayWay(pine, 0, 1, 2, NONE, NONE, NONE);
        stayWay(pine, 0, NONE, NONE, NONE, NONE, NONE, NONE);
        EmberTale later = laid("t9999;r0;r3;c0,2,1,0,0,0;");
        stayWay(later, 0, 0, NONE);
        stayWay(later, 0, 1, 0, NONE);
        later.pass(1);
        stayWay(later, 0, 1, 0);
        pine.pass(1);
        due("stays, OUT", pine.stays(1, 1, -1), NO);
        due("stays, OUT, k", pine.stays(1, 1, 0), NO);
        due("stays, OUT, k = -2", pine.stays(1, 1, -2), BAD);
        due("stays, n = 0", x.stays(0, 0, -1), BAD);
        due("stays, n = 7", x.stays(0, 7, -1), BAD);
        due("stays, k = -2", x.stays(3, 1, -2), BAD);
        due("stays, c = 4", x.stays(4, 1, -1), BAD);
        for (int number : WRONG) {
            due("stays(" + number + ", 1, 0)", x.stays(number, 1, 0), BAD);
            due("stays(0, " + number + ", 0)", x.stays(0, number, 0), BAD);
        }
        due("stays, lowest k", x.stays(0, 1, Integer.MIN_VALUE), BAD);
        due("count(7)", x.count(7), 0);
        stands(x, 1, 20, 0, 1, 1, 0, 0, NONE, 0);
    }

    /** How many logs, then each. */
    private static void tellWay(EmberTale x, int c, int l, int... want) {
        for (int k = -1; k < want.length - 1; k++) {
            due("tell(" + c + ", " + l + ", " + k + ")", x.tell(c, l, k), want[k + 1]);
        }
        due("tell, k too high", x.tell(c, l, want.length - 1), NONE);
        due("tell, k too high", x.tell(c, l, Integer.MAX_VALUE), NONE);
    }

    private static void tell() {
        promise = "17 tell";
        EmberTale chain = laid("t1999;t2999;t3999;t4999;t5999;t6999;t7999;t9999;c0,1,9,0,0,0;c0,1,5,9,9,9;");
        tellWay(chain, 0, 0, 0);
        tellWay(chain, 0, 6, 6, 0, 0, 0, 0, 0, 0);
        tellWay(chain, 0, 7, NONE);
        tellWay(chain, 1, 5, 5, 0, 0, 0, 0, 0);
        tellWay(chain, 1, 6, NONE);
        EmberTale x = laid("t9919;t9999;c0,2,0,0,1,0;c0,2,1,0,1,0;c0,3,0,0,1,0;c0,2,0,1,1,1;");
        tellWay(x, 0, 1, NONE);
        tellWay(x, 1, 1, 2, 0, 2);
        tellWay(x, 2, 1, 1, 2);
        tellWay(x, 3, 1, 2, 1, 2);
        EmberTale several = laid("t9112;t9922;t9999;c0,9,0,1,1,1;c0,9,0,0,1,2;c0,9,0,2,0,0;c1,9,0,0,0,0;");
        tellWay(several, 0, 1, 1, 1);
        tellWay(several, 0, 2, 1, 3);
        tellWay(several, 1, 1, 1, 2);
        tellWay(several, 2, 2, NONE);
        tellWay(several, 3, 0, NONE);
        EmberTale rained = laid("t1999;t9999;r3;c0,1,1,0,0,0;c0,1,0,0,1,0;");
        tellWay(rained, 0, 1, 1, 0);
        rained.pass(1);
        due("tell, OUT", rained.tell(0, 0, -1), NO);
        due("tell, OUT, k = -2", rained.tell(0, 0, -2), BAD);
        due("tell, k = -2", x.tell(0, 0, -2), BAD);
        due("tell, l = 2", x.tell(0, 2, -1), BAD);
        due("tell, c = 4", x.tell(4, 0, -1), BAD);
        for (int number : WRONG) {
            due("tell(" + number + ", 0, 0)", x.tell(number, 0, 0), BAD);
            due("tell(0, " + number + ", 0)", x.tell(0, number, 0), BAD);
        }
        due("tell, lowest k", x.tell(0, 1, Integer.MIN_VALUE), BAD);
        due("count(7)", x.count(7), 0);
        stands(x, 1, 2, 0, 1, 0, 1, 0, NONE, 0);
    }

    /** How long, then each wood. */
    private static void meetWay(EmberTale x, int a, int b, int... want) {
        for (int k = -1; k < want.length - 1; k++) {
            due("meet(" + a + ", " + b + ", " + k + ")", x.meet(a, b, k), want[k + 1]);
        }
        due("meet, k too high", x.meet(a, b, want.length - 1), NONE);
        due("meet, k too high", x.meet(a, b, Integer.MAX_VALUE), NONE);
    }

    private static void meet() {
        promise = "18 meet";
        EmberTale chain = laid("t9199;t9299;t9399;t9499;t9599;t9699;t9799;t9899;t9999;"
                + "c0,1,0,0,0,0;c8,1,0,0,0,0;c0,2,0,0,0,0;c7,1,0,0,0,0;");
        meetWay(chain, 0, 1, 8, 1, 1, 1, 1, 1, 1, 1, 1);
        meetWay(chain, 1, 0, 8, 1, 1, 1, 1, 1, 1, 1, 1);
        meetWay(chain, 0, 2, 0);
        meetWay(chain, 1, 3, 1, 1);
        EmberTale turn = laid("t1111;t0000;c0,9,0,0,0,0;c1,9,0,0,0,0;c1,1,0,0,0,0;");
        meetWay(turn, 0, 1, NONE);
        meetWay(turn, 1, 2, 0);
        EmberTale several = laid("t9211;t9219;t9999;c0,9,9,9,9,9;c1,9,0,0,0,0;c2,9,0,0,0,0;");
        meetWay(several, 0, 1, 1, 1);
        meetWay(several, 0, 2, 1, 1);
        EmberTale wet = laid("t0011;t1110;t2222;c0,1,0,0,0,0;c1,1,0,0,0,0;c2,1,0,0,0,0;");
        meetWay(wet, 0, 1, 1, 2);
        meetWay(wet, 0, 2, NONE);
        turn.pass(1);
        due("meet, the second OUT", turn.meet(0, 2, -1), NO);
        due("meet, the first OUT", turn.meet(2, 0, 0), NO);
        due("meet, OUT, k = -2", turn.meet(2, 0, -2), BAD);
        due("meet, k = -2", turn.meet(0, 1, -2), BAD);
        due("meet, alike", turn.meet(1, 1, 0), BAD);
        due("meet, c = 3", turn.meet(0, 3, 0), BAD);
        for (int number : WRONG) {
            due("meet(" + number + ", 0, 0)", turn.meet(number, 0, 0), BAD);
            due("meet(0, " + number + ", 0)", turn.meet(0, number, 0), BAD);
        }
        due("meet, lowest k", turn.meet(0, 1, Integer.MIN_VALUE), BAD);
    }

    private static void can() {
        promise = "19 can";
        EmberTale x = laid("t9199;t9929;t9993;t5999;t4444;t9999;t6666;t0789;t9998;"
                + "c0,1,0,0,0,0;c6,2,0,0,0,0;c7,2,0,0,0,0;c8,2,0,0,0,0;");
        due("can(0)", x.can(0), 0x2f);
        due("can(1)", x.can(1), 0x40);
        due("can(2)", x.can(2), 0x1af);
        due("can(3)", x.can(3), 0x100);
        due("can(4)", x.can(4), BAD);
        x.pass(1);
        due("can, OUT", x.can(0), NO);
        for (int number : WRONG) {
            due("can(" + number + ")", x.can(number), BAD);
        }
        EmberTale chain = laid("t9999;t0999;t1999;t2999;t3999;t4999;t5999;t6999;t7999;c8,1,0,0,0,0;");
        due("can, eight steps", chain.can(0), 0x1ff);
    }

    private static void give() {
        promise = "20 give";
        EmberTale x = laid("t9999;r3;c0,20,0,0,1,1;c0,20,0,0,0,0;c0,1,2,0,0,0;c0,1,0,0,0,0;");
        due("give, none needed", x.give(0, 1, 1), 2);
        due("give, no logs", x.give(1, 0, 1), NONE);
        due("give, one for each", x.give(2, 3, 1), 0);
        due("give, too few for two hours", x.give(2, 3, 2), NONE);
        due("give, WET does not help", x.give(0, 3, 1), 3);
        due("give, only the second could not be kept in", x.give(1, 3, 1), NONE);
        due("give, GREEN for six hours", x.give(0, 1, 6), NONE);
        EmberTale last = laid("t9999;r3;c0,1,1,1,0,1;c0,1,0,0,0,0;c0,1,1,0,0,0;");
        due("give, any", last.give(0, 1, 1), 0);
        due("give, its only one", last.give(2, 1, 1), NONE);
        due("give, six hours", last.give(0, 1, 6), NONE);
        due("give, to one that can", last.give(0, 2, 2), 0);
        due("give, three hours", last.give(0, 2, 3), NONE);
        EmberTale later = laid("t9999;r0;r3;c0,9,1,0,0,1;c0,2,0,0,0,0;");
        due("give for two hours", later.give(0, 1, 2), 0);
        due("count(4), nothing handed", later.count(4), 2);
        due("count(7), nothing handed", later.count(7), 0);
        later.pass(2);
        due("give, OUT", later.give(0, 1, 1), NO);
        due("give, OUT", later.give(1, 0, 1), NO);
        due("give, OUT, n = 7", later.give(1, 0, 7), BAD);
        due("give, n = 0", x.give(0, 1, 0), BAD);
        due("give, n = 7", x.give(0, 1, 7), BAD);
        due("give, alike", x.give(0, 0, 1), BAD);
        due("give, c = 4", x.give(0, 4, 1), BAD);
        for (int number : WRONG) {
            due("give(" + number + ", 0, 1)", x.give(number, 0, 1), BAD);
            due("give(0, " + number + ", 1)", x.give(0, number, 1), BAD);
            due("give(0, 1, " + number + ")", x.give(0, 1, number), BAD);
        }
    }

    private static void see() {
        promise = "21 see";
        EmberTale x = new EmberTale();
        due("see(4)", x.see(4), BAD);
        for (int n = 1; n <= 6; n++) {
            due("see", x.see(n % 4), n);
        }
        due("see, a seventh", x.see(0), FULL);
        due("see(4), a seventh", x.see(4), BAD);
        for (int number : WRONG) {
            due("see(" + number + ")", x.see(number), BAD);
        }
        due("count(6)", x.count(6), 6);
        due("count(7)", x.count(7), 0);
    }

    private static void forget() {
        promise = "22 forget";
        EmberTale x = new EmberTale();
        due("forget, nothing seen", x.forget(), 0);
        x.see(1);
        x.see(0);
        due("from(0)", x.from(0), 4 + 8);
        due("forget", x.forget(), 2);
        due("from(0)", x.from(0), 1);
        due("count(6)", x.count(6), 0);
        due("see", x.see(3), 1);
        due("forget", x.forget(), 1);
    }

    private static void from() {
        promise = "23 from";
        EmberTale x = laid("t1999;t2999;t9909;t2222;c0,1,0,0,0,0;c1,9,0,0,0,0;c2,9,0,0,0,0;c3,9,0,0,0,0;");
        fromAll(x, 1, 2, 4, 8);
        x.see(0);
        fromAll(x, 0, 1, 2 + 4 + 8, 0);
        x.see(2);
        fromAll(x, 2 + 4 + 8, 1, 0, 0);
        x.see(0);
        fromAll(x, 0, 2 + 4 + 8, 1, 0);
        x.see(0);
        fromAll(x, 0, 0, 15, 0);
        x.pass(1);
        due("from, OUT", x.from(0), NO);
        due("from, c = 4", x.from(4), BAD);
        for (int number : WRONG) {
            due("from(" + number + ")", x.from(number), BAD);
        }
        EmberTale order = laid("t1929;t9929;t9999;c1,1,0,0,0,0;c2,1,0,0,0,0;");
        order.see(0);
        order.see(2);
        fromAll(order, 0, 7);
        order.forget();
        order.see(2);
        order.see(0);
        fromAll(order, 0, 7);
    }

    private static void fromAll(EmberTale x, int... want) {
        for (int c = 0; c < want.length; c++) {
            due("from(" + c + ") of " + x.count(6) + " seen", x.from(c), want[c]);
        }
    }

    private static void rows() {
        promise = "24 rows";
        EmberTale x = laid("t1999;t1110;t2222;c0,1,0,0,0,0;c1,2,0,0,0,0;c2,2,0,0,0,0;");
        due("rows(0, 0, 0)", x.rows(0, 0, 0), 1);
        due("rows(0, 1, 0)", x.rows(0, 1, 0), 0);
        due("rows(0, 0, 1)", x.rows(0, 0, 1), 3);
        due("rows(1, 0, 1)", x.rows(1, 0, 1), 1);
        due("rows(0, 1, 1)", x.rows(0, 1, 1), 1);
        due("rows(1, 1, 1)", x.rows(1, 1, 1), 3);
        due("rows(0, 0, 2)", x.rows(0, 0, 2), 10);
        due("rows(1, 0, 2)", x.rows(1, 0, 2), 6);
        due("rows(2, 0, 8)", x.rows(2, 0, 8), 0);
        due("rows(2, 2, 8)", x.rows(2, 2, 8), 65536);
        due("rows(0, 0, 8)", x.rows(0, 0, 8), 32896);
        due("rows(1, 0, 8)", x.rows(1, 0, 8), 32640);
        due("rows, n = 9", x.rows(0, 0, 9), BAD);
        due("rows, l = 3", x.rows(0, 3, 1), BAD);
        due("rows, c = 3", x.rows(3, 0, 1), BAD);
        x.pass(1);
        due("rows, OUT", x.rows(0, 0, 0), NO);
        due("rows, OUT, n = 9", x.rows(0, 0, 9), BAD);
        for (int number : WRONG) {
            due("rows(" + number + ", 0, 0)", x.rows(number, 0, 0), BAD);
            due("rows(0, " + number + ", 0)", x.rows(0, number, 0), BAD);
            due("rows(0, 0, " + number + ")", x.rows(0, 0, number), BAD);
        }
    }

    private static void chance(EmberTale x, int c, int n, int x10, int above, int below) {
        due("rains(" + c + ", " + n + ", " + x10 + ", 0)", x.rains(c, n, x10, 0), above);
        due("rains(" + c + ", " + n + ", " + x10 + ", 1)", x.rains(c, n, x10, 1), below);
    }

    private static void rains() {
        promise = "25 rains";
        EmberTale x = laid("t9999;r1;c0,3,0,0,0,0;c0,7,0,0,0,0;c0,14,0,1,0,0;c0,8,0,0,0,1;");
        x.put(2, 1);
        x.put(3, 3);
        chance(x, 0, 0, 5, 1, 1);
        chance(x, 0, 1, 3, 7, 10);
        chance(x, 0, 1, 4, 3, 5);
        chance(x, 0, 1, 0, 1, 1);
        chance(x, 0, 1, 10, 0, 1);
        chance(x, 0, 2, 0, 0, 1);
        chance(x, 1, 2, 5, 3, 4);
        chance(x, 1, 2, 2, 24, 25);
        chance(x, 1, 3, 0, 1, 1);
        chance(x, 1, 3, 1, 729, 1000);
        chance(x, 2, 6, 1, 531441, 1000000);
        chance(x, 2, 5, 1, 12393, 12500);
        chance(x, 3, 8, 7, 1, 1);
        EmberTale dry = laid("t9999;c0,17,0,0,0,0;c0,9,0,0,0,0;");
        chance(dry, 0, 8, 1, 19991367, 20000000);
        chance(dry, 1, 8, 3, 5764801, 100000000);
        EmberTale turns = laid("t9999;r3;r0;c0,5,0,0,0,0;c0,1,0,0,0,0;");
        chance(turns, 0, 1, 1, 9, 10);
        turns.pass(1);
        chance(turns, 0, 1, 1, 0, 1);
        chance(turns, 0, 0, 1, 1, 1);
        chance(turns, 1, 0, 5, 0, 1);
        chance(turns, 1, 8, 5, 0, 1);
        due("rains, c = 4", x.rains(4, 1, 1, 0), BAD);
        due("rains, n = 9", x.rains(0, 9, 1, 0), BAD);
        due("rains, x = 11", x.rains(0, 1, 11, 0), BAD);
        due("rains, part = 2", x.rains(0, 1, 1, 2), BAD);
        for (int number : WRONG) {
            due("rains(" + number + ", 0, 0, 0)", x.rains(number, 0, 0, 0), BAD);
            due("rains(0, " + number + ", 0, 0)", x.rains(0, number, 0, 0), BAD);
            due("rains(0, 0, " + number + ", 0)", x.rains(0, 0, number, 0), BAD);
            due("rains(0, 0, 0, " + number + ")", x.rains(0, 0, 0, number), BAD);
        }
    }

    private static void winter() {
        promise = "26 winter";
        EmberTale x = laid("t1999;t9999;c0,1,1,0,0,0;c0,1,0,0,0,0;");
        due("winter, draw 1: company 0 puts on OAK", x.winter(0, 1, 1), 1);
        due("winter, draw 1", x.winter(0, 1, 0), 2);
        due("winter, draw 41487: an hour", x.winter(0, 2, 0), 1);
        due("winter, no more told", x.winter(0, 2, 1), 1);
        due("count(2), nothing changes", x.count(2), 0);
        due("count(3), nothing changes", x.count(3), 2);
        due("count(4), nothing changes", x.count(4), 1);
        due("count(5), nothing changes", x.count(5), 0);
        due("count(7), nothing changes", x.count(7), 0);
        x.put(0, 0);
        due("winter, told in it only", x.winter(0, 1, 1), 0);
        due("winter, no log left", x.winter(0, 60, 1), 0);
        EmberTale first = new EmberTale();
        due("winter(5, 60, 0)", first.winter(5, 60, 0), 1);
        due("winter(5, 60, 1)", first.winter(5, 60, 1), 12);
        due("winter, z = 9999", first.winter(9999, 1, 0), 3);
        due("winter, z = 10000", first.winter(10000, 1, 0), BAD);
        due("winter, n = 0", first.winter(0, 0, 0), BAD);
        due("winter, n = 61", first.winter(0, 61, 0), BAD);
        due("winter, what = 2", first.winter(0, 1, 2), BAD);
        for (int number : WRONG) {
            due("winter(" + number + ", 1, 0)", first.winter(number, 1, 0), BAD);
            due("winter(0, " + number + ", 0)", first.winter(0, number, 0), BAD);
            due("winter(0, 1, " + number + ")", first.winter(0, 1, number), BAD);
        }
    }

    private static void keep() {
        promise = "27 keep";
        EmberTale x = new EmberTale();
        due("keep", x.keep(), 1);
        x.put(0, 0);
        due("keep", x.keep(), 2);
        due("keep, a third", x.keep(), FULL);
        due("count(8)", x.count(8), 2);
        due("count(7), keeping leaves it", x.count(7), 1);
        due("undo", x.undo(), 0);
        due("count(8), undoing leaves it", x.count(8), 2);
        due("back, the later one", x.back(), 1);
        due("company(0, 7)", x.company(0, 7), 1);
        due("keep", x.keep(), 2);
        due("keep, a third", x.keep(), FULL);
    }

    private static void back() {
        promise = "28 back";
        EmberTale x = laid("t1111;t0000;r2;r1;r0;c0,9,3,1,0,0;c1,2,1,1,1,1;");
        due("back, nothing kept", x.back(), NO);
        x.put(0, 0);
        x.pass(1);
        x.keep();
        x.pass(2);
        x.put(0, 1);
        x.hand(0, 1, 0);
        x.keep();
        x.join(0, 1);
        x.pass(24);
        x.see(2);
        x.write('a');
        due("back", x.back(), 1);
        stands(x, 0, 13, 0, 1, 0, 0, 0, 1, 2);
        stands(x, 1, 0, NONE, 2, 1, 1, 1, NONE, 0);
        due("count(2)", x.count(2), 3);
        due("count(6), seen stays", x.count(6), 1);
        due("count(9), the text stays", x.count(9), 1);
        due("count(7)", x.count(7), 0);
        due("undo", x.undo(), NO);
        x.pass(1);
        due("back", x.back(), 0);
        stands(x, 0, 10, 1, 2, 1, 0, 0, 0, 1);
        due("count(2)", x.count(2), 1);
        due("rain(0)", x.rain(0), 1);
        due("undo", x.undo(), NO);
        due("back, nothing left", x.back(), NO);
        x.pass(1);
        due("undo", x.undo(), 0);
    }

    private static void count() {
        promise = "29 count";
        EmberTale x = laid("t1111;t0000;t9999;c0,9,3,1,0,0;c1,1,1,2,3,4;c2,4,9,9,9,9;");
        x.put(0, 0);
        x.put(0, 1);
        x.put(1, 3);
        x.pass(2);
        x.see(0);
        x.see(0);
        x.keep();
        x.write('t');
        x.write('1');
        x.write('1');
        int[] counts = {3, 3, 2, 2, 47, 3, 2, 4, 1, 3};
        for (int what = 0; what < counts.length; what++) {
            due("count(" + what + ")", x.count(what), counts[what]);
        }
        due("count(10)", x.count(10), BAD);
        for (int number : WRONG) {
            due("count(" + number + ")", x.count(number), BAD);
        }
    }
}
