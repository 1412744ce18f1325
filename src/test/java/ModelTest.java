import java.math.BigInteger;
import java.util.ArrayDeque;
import java.util.ArrayList;
import java.util.Arrays;
import java.util.Deque;
import java.util.HashSet;
import java.util.LinkedHashMap;
import java.util.List;
import java.util.Map;
import java.util.Random;
import java.util.Set;
import java.util.regex.Matcher;
import java.util.regex.Pattern;

/** Long runs of calls, chosen by a fixed seed, against a slow model that tries every way that the document speaks of. */
public final class ModelTest {
    private static final String[] CALLS = {"write", "wipe", "fault", "lay", "line", "rain", "company", "put", "pass",
        "light", "join", "hand", "undo", "lasts", "stays", "tell", "meet", "can", "give", "see", "forget", "from",
        "rows", "rains", "winter", "keep", "back", "count"};

    private static int wrong = 0;

    public static void main(String[] args) {
        Map<String, Map<Integer, Integer>> answers = new LinkedHashMap<>();
        for (int run = 0; run < 400 && wrong < 20; run++) {
            new Run(run, answers).play();
        }
        meansWhatItTests(answers);
        System.out.println(wrong == 0 ? "the class answers as the model does" : wrong + " answers differ");
        if (wrong != 0) {
            System.exit(1);
        }
    }

    /** A run that never comes to an answer tests nothing of it: each call has to have answered all its kinds. */
    private static void meansWhatItTests(Map<String, Map<Integer, Integer>> answers) {
        String[] both = {"put", "light", "join", "hand", "undo", "stays", "tell", "meet", "can", "give", "from", "rows",
            "back", "lay"};
        for (String call : both) {
            needs(answers, call, -2);
        }
        for (String call : new String[] {"stays", "tell", "meet", "give", "line", "company", "put", "fault"}) {
            needs(answers, call, -4);
        }
        for (String call : new String[] {"see", "keep", "write"}) {
            needs(answers, call, -3);
        }
        for (String call : CALLS) {
            int good = 0;
            for (Map.Entry<Integer, Integer> entry : answers.getOrDefault(call, Map.of()).entrySet()) {
                good += entry.getKey() >= 0 ? entry.getValue() : 0;
            }
            if (good < 100) {
                wrong++;
                System.out.println(call + " answered a number only " + good + " times");
            }
        }
    }

    private static void needs(Map<String, Map<Integer, Integer>> answers, String call, int answer) {
        if (answers.getOrDefault(call, Map.of()).getOrDefault(answer, 0) < 3) {
            wrong++;
            System.out.println(call + " hardly ever answered " + answer);
        }
    }

    /** One object with its model and up to 512 calls. */
    private static final class Run {
        private final Random random;
        private final int run;
        private final Map<String, Map<Integer, Integer>> answers;
        private final EmberTale x = new EmberTale();
        private final Model model = new Model();
        private final List<String> told = new ArrayList<>();
        private int calls = 0;

        Run(int run, Map<String, Map<Integer, Integer>> answers) {
            this.run = run;
            this.random = new Random(7000L + run);
            this.answers = answers;
        }

        void play() {
            while (calls < 512 && wrong < 20) {
                if (random.nextInt(60) == 0 || calls == 0 && run % 4 != 0) {
                    layNew();
                } else {
                    any();
                }
            }
        }

        private void layNew() {
            call("wipe");
            String text = random.nextInt(4) == 0 ? spoilt(newText()) : newText();
            if (random.nextInt(10) == 0) {
                text = newText() + newText() + newText() + text;
            }
            for (int i = 0; i < text.length(); i++) {
                call("write", text.charAt(i));
            }
            call("fault");
            call("lay");
        }

        private String newText() {
            int lines = 1 + random.nextInt(9);
            StringBuilder text = new StringBuilder();
            for (int l = 0; l < lines; l++) {
                text.append('t');
                for (int wood = 0; wood < 4; wood++) {
                    int named = random.nextInt(lines);
                    text.append(random.nextInt(3) == 0 ? 9 : random.nextInt(80) == 0 ? random.nextInt(10) : named);
                }
                text.append(';');
            }
            for (int n = random.nextInt(9); n > 0; n--) {
                text.append('r').append(random.nextInt(30) == 0 ? "0" : "").append(random.nextInt(4)).append(';');
            }
            boolean hot = random.nextBoolean();
            boolean rich = random.nextBoolean();
            for (int n = random.nextInt(12) == 0 ? 0 : 1 + random.nextInt(4); n > 0; n--) {
                text.append('c').append(random.nextInt(lines));
                text.append(',').append(1 + random.nextInt(hot ? 20 : 5));
                for (int wood = 0; wood < 4; wood++) {
                    text.append(',').append(random.nextInt(2) == 0 ? 0 : random.nextInt(rich ? 10 : 3));
                }
                text.append(';');
            }
            return text.toString();
        }

        private String spoilt(String text) {
            StringBuilder spoilt = new StringBuilder(text);
            String signs = "0123456789,;trcx ";
            char sign = signs.charAt(random.nextInt(signs.length()));
            int place = random.nextInt(spoilt.length());
            switch (random.nextInt(3)) {
                case 0: spoilt.setCharAt(place, sign); break;
                case 1: spoilt.insert(place, sign); break;
                default: spoilt.deleteCharAt(place);
            }
            return spoilt.toString();
        }

        private void any() {
            switch (random.nextInt(34)) {
                case 0: call("write", number(32, 126)); break;
                case 1: call(random.nextInt(8) == 0 ? "lay" : "fault"); break;
                case 2: call("line", number(0, 8), number(0, 3)); break;
                case 3: call("rain", number(0, 99)); break;
                case 4: case 5: case 6: call("company", company(), number(0, 7)); break;
                case 7: case 8: case 9: call("put", company(), number(0, 3)); break;
                case 10: call("pass", random.nextInt(3) == 0 ? number(1, 24) : 1); break;
                case 11: case 12: call("light", company(), company()); break;
                case 13: call("join", company(), company()); break;
                case 14: call("hand", company(), company(), number(0, 3)); break;
                case 15: case 16: call("undo"); break;
                case 17: call("lasts", company()); break;
                case 18: case 19: staysWhole(); break;
                case 20: case 21: tellWhole(); break;
                case 22: meetWhole(); break;
                case 23: call("can", company()); break;
                case 24: call("give", company(), company(), number(1, 6)); break;
                case 25: call("see", number(0, 3)); break;
                case 26: call(random.nextInt(4) == 0 ? "forget" : "count", 6); break;
                case 27: call("from", company()); break;
                case 28: call("rows", company(), number(0, 8), number(0, 8)); break;
                case 29: rainsWhole(); break;
                case 30: call("winter", number(0, 9999), number(1, 60), number(0, 1)); break;
                case 31: call("keep"); break;
                case 32: call(random.nextInt(2) == 0 ? "back" : "keep"); break;
                default: call("count", number(0, 9));
            }
        }

        private void staysWhole() {
            int c = company();
            int n = number(1, 6);
            call("stays", c, n, random.nextInt(20) == 0 ? -2 : -1);
            int k = random.nextInt(7);
            call("stays", c, n, k);
            call("stays", c, n, k == 0 ? 1 : 0);
        }

        private void tellWhole() {
            int c = company();
            int l = number(0, 8);
            call("tell", c, l, random.nextInt(20) == 0 ? -2 : -1);
            call("tell", c, l, random.nextInt(3));
            call("tell", c, l, random.nextInt(7));
        }

        private void meetWhole() {
            int a = company();
            int b = company();
            call("meet", a, b, random.nextInt(20) == 0 ? -2 : -1);
            call("meet", a, b, 0);
            call("meet", a, b, random.nextInt(5));
        }

        private void rainsWhole() {
            int c = company();
            int n = number(0, 8);
            int x10 = number(0, 10);
            call("rains", c, n, x10, number(0, 1));
            call("rains", c, n, x10, random.nextInt(2));
        }

        private int company() {
            if (random.nextInt(40) == 0) {
                return number(0, 3);
            }
            return random.nextInt(Math.max(1, model.fires.size()));
        }

        /** A number between both, now and then one beside them. */
        private int number(int low, int high) {
            int dice = random.nextInt(60);
            if (dice == 0) {
                return low - 1;
            }
            if (dice == 1) {
                return high + 1;
            }
            if (dice == 2) {
                return random.nextInt();
            }
            return low + random.nextInt(high - low + 1);
        }

        private void call(String name, int... a) {
            if (calls >= 512) {
                return;
            }
            calls++;
            int[] all = Arrays.copyOf(a, 4);
            told.add(name + Arrays.toString(a));
            int got = Calls.of(x, name, all);
            int want = model.answer(name, all);
            answers.computeIfAbsent(name, n -> new LinkedHashMap<>()).merge(got, 1, Integer::sum);
            if (got != want) {
                wrong++;
                System.out.println("run " + run + ", call " + calls + ": " + name + Arrays.toString(a) + " answered "
                        + got + ", due is " + want);
                if (wrong == 1) {
                    System.out.println(told);
                }
            }
        }
    }

    /** One company; a fire that is out has the line -4 and the last log -4. */
    private static final class Hearth {
        int hot;
        int line;
        int last = -4;
        int told = 0;
        int[] logs = new int[4];

        Hearth copy() {
            Hearth copy = new Hearth();
            copy.hot = hot;
            copy.line = line;
            copy.last = last;
            copy.told = told;
            copy.logs = logs.clone();
            return copy;
        }

        boolean in() {
            return hot > 0;
        }

        private void cap() {
            if (hot > 20) {
                hot = 20;
            }
            if (hot <= 0) {
                hot = 0;
                line = -4;
                last = -4;
            }
        }

        /** False: it could not be. */
        boolean put(int wood, String[] lines) {
            if (!in() || logs[wood] == 0) {
                return false;
            }
            logs[wood]--;
            hot += new int[] {4, 6, -2, 1}[wood];
            cap();
            if (in()) {
                last = wood;
                char next = lines[line].charAt(wood);
                if (next != '9') {
                    line = next - '0';
                    told++;
                }
            }
            return true;
        }

        void hour(int rain) {
            if (in()) {
                hot -= 1 + (last == 3 ? 0 : rain) + (last == 1 ? 1 : 0);
                cap();
            }
        }
    }

    /** The document, tried out the long way. */
    private static final class Model {
        private static final int BAD = -1, NO = -2, FULL = -3, NONE = -4;
        private static final Pattern LINE = Pattern.compile("t([0-9]{4});");
        private static final Pattern RAIN = Pattern.compile("r0?([0-3]);");
        private static final Pattern COMPANY = Pattern.compile(
                "c0?([0-8]),(0?[1-9]|1[0-9]|20),0?([0-9]),0?([0-9]),0?([0-9]),0?([0-9]);");

        private String text = "";
        private String[] lines;
        private int[] rain;
        List<Hearth> fires = new ArrayList<>();
        private int hours;
        private List<Integer> seen = new ArrayList<>();
        private Deque<Object[]> done = new ArrayDeque<>();
        private Deque<Object[]> kept = new ArrayDeque<>();

        Model() {
            text = "t1203;t2194;t4330;t0952;t5149;t9995;r0;r1;r0;r2;c0,9,3,2,1,2;c2,5,1,4,2,0;c0,12,0,0,3,3;";
            lay();
            text = "";
        }

        private List<Hearth> copyOf(List<Hearth> all) {
            List<Hearth> copies = new ArrayList<>();
            for (Hearth fire : all) {
                copies.add(fire.copy());
            }
            return copies;
        }

        private Object[] now() {
            return new Object[] {copyOf(fires), hours};
        }

        @SuppressWarnings("unchecked")
        private void then(Object[] stood) {
            fires = (List<Hearth>) stood[0];
            hours = (Integer) stood[1];
        }

        private void remember() {
            done.addLast(now());
            if (done.size() > 8) {
                done.removeFirst();
            }
        }

        private boolean isCompany(int... all) {
            for (int c : all) {
                if (c < 0 || c >= fires.size()) {
                    return false;
                }
            }
            return true;
        }

        private boolean isLine(int l) {
            return l >= 0 && l < lines.length;
        }

        private boolean isWood(int wood) {
            return wood >= 0 && wood <= 3;
        }

        int answer(String name, int[] a) {
            switch (name) {
                case "write": return write(a[0]);
                case "wipe": return wipe();
                case "fault": return fault();
                case "lay": return lay();
                case "line": return !isLine(a[0]) || !isWood(a[1]) ? BAD
                        : lines[a[0]].charAt(a[1]) == '9' ? NONE : lines[a[0]].charAt(a[1]) - '0';
                case "rain": return a[0] < 0 || a[0] > 99 ? BAD : rainAt(hours + a[0]);
                case "company": return company(a[0], a[1]);
                case "put": return put(a[0], a[1]);
                case "pass": return pass(a[0]);
                case "light": return light(a[0], a[1]);
                case "join": return join(a[0], a[1]);
                case "hand": return hand(a[0], a[1], a[2]);
                case "undo": return undo();
                case "lasts": return lasts(a[0]);
                case "stays": return stays(a[0], a[1], a[2]);
                case "tell": return tell(a[0], a[1], a[2]);
                case "meet": return meet(a[0], a[1], a[2]);
                case "can": return can(a[0]);
                case "give": return give(a[0], a[1], a[2]);
                case "see": return see(a[0]);
                case "forget": return forget();
                case "from": return from(a[0]);
                case "rows": return rows(a[0], a[1], a[2]);
                case "rains": return rains(a[0], a[1], a[2], a[3]);
                case "winter": return winter(a[0], a[1], a[2]);
                case "keep": return keep();
                case "back": return back();
                default: return count(a[0]);
            }
        }

        private int write(int letter) {
            if (letter < 32 || letter > 126) {
                return BAD;
            }
            if (text.length() == 200) {
                return FULL;
            }
            text += (char) letter;
            return text.length();
        }

        private int wipe() {
            int length = text.length();
            text = "";
            return length;
        }

        private int fault() {
            int lineCount = 0;
            int rainCount = 0;
            int companyCount = 0;
            int place = 0;
            while (place < text.length()) {
                Matcher line = LINE.matcher(text).region(place, text.length());
                Matcher drops = RAIN.matcher(text).region(place, text.length());
                Matcher company = COMPANY.matcher(text).region(place, text.length());
                if (line.lookingAt() && lineCount < 9) {
                    lineCount++;
                    place = line.end();
                } else if (drops.lookingAt() && rainCount < 8) {
                    rainCount++;
                    place = drops.end();
                } else if (company.lookingAt() && companyCount < 4
                        && Integer.parseInt(company.group(1)) < lineCount) {
                    companyCount++;
                    place = company.end();
                } else {
                    return place;
                }
            }
            return NONE;
        }

        private int lay() {
            if (fault() != NONE) {
                return NO;
            }
            List<String> newLines = new ArrayList<>();
            List<Integer> newRain = new ArrayList<>();
            List<Hearth> newFires = new ArrayList<>();
            for (String item : text.isEmpty() ? new String[0] : text.split(";")) {
                String tells = item.substring(1);
                switch (item.charAt(0)) {
                    case 't': newLines.add(tells); break;
                    case 'r': newRain.add(Integer.parseInt(tells)); break;
                    default: newFires.add(hearthOf(tells.split(",")));
                }
            }
            String named = String.join("", newLines).replace("9", "");
            for (int i = 0; i < named.length(); i++) {
                if (named.charAt(i) - '0' >= newLines.size()) {
                    return NO;
                }
            }
            if (newFires.isEmpty()) {
                return NO;
            }
            lines = newLines.toArray(new String[0]);
            rain = newRain.stream().mapToInt(r -> r).toArray();
            fires = newFires;
            hours = 0;
            seen.clear();
            done.clear();
            kept.clear();
            return fires.size();
        }

        private Hearth hearthOf(String[] numbers) {
            Hearth fire = new Hearth();
            fire.line = Integer.parseInt(numbers[0]);
            fire.hot = Integer.parseInt(numbers[1]);
            for (int wood = 0; wood < 4; wood++) {
                fire.logs[wood] = Integer.parseInt(numbers[2 + wood]);
            }
            return fire;
        }

        private int rainAt(int hour) {
            return rain.length == 0 ? 0 : rain[hour % rain.length];
        }

        private int company(int c, int what) {
            if (!isCompany(c) || what < 0 || what > 7) {
                return BAD;
            }
            Hearth fire = fires.get(c);
            switch (what) {
                case 0: return fire.hot;
                case 1: return fire.line;
                case 6: return fire.last;
                case 7: return fire.told;
                default: return fire.logs[what - 2];
            }
        }

        private int put(int c, int wood) {
            if (!isCompany(c) || !isWood(wood)) {
                return BAD;
            }
            if (!fires.get(c).copy().put(wood, lines)) {
                return NO;
            }
            remember();
            fires.get(c).put(wood, lines);
            return fires.get(c).line;
        }

        private int in() {
            int in = 0;
            for (Hearth fire : fires) {
                in += fire.in() ? 1 : 0;
            }
            return in;
        }

        private void hour() {
            for (Hearth fire : fires) {
                fire.hour(rainAt(hours));
            }
            hours++;
        }

        private int pass(int n) {
            if (n < 1 || n > 24) {
                return BAD;
            }
            remember();
            for (int i = 0; i < n; i++) {
                hour();
            }
            return in();
        }

        private boolean kindle(int a, int b) {
            Hearth cold = fires.get(a);
            Hearth warm = fires.get(b);
            if (cold.in() || warm.hot < 4) {
                return false;
            }
            warm.hot--;
            cold.hot = 3;
            cold.line = warm.line;
            return true;
        }

        private int light(int a, int b) {
            if (!isCompany(a, b) || a == b) {
                return BAD;
            }
            Object[] before = now();
            if (!kindle(a, b)) {
                return NO;
            }
            Object[] after = now();
            then(before);
            remember();
            then(after);
            return fires.get(a).line;
        }

        private int join(int a, int b) {
            if (!isCompany(a, b) || a == b) {
                return BAD;
            }
            Hearth one = fires.get(a);
            Hearth other = fires.get(b);
            if (!one.in() || !other.in()) {
                return NO;
            }
            remember();
            one.hot += other.hot;
            one.cap();
            if (other.line < one.line) {
                one.line = other.line;
            }
            for (int wood = 0; wood < 4; wood++) {
                one.logs[wood] = Math.min(99, one.logs[wood] + other.logs[wood]);
            }
            other.logs = new int[4];
            other.hot = 0;
            other.cap();
            return one.line;
        }

        private boolean give(Hearth one, Hearth other, int wood) {
            if (one.logs[wood] == 0 || other.logs[wood] == 99) {
                return false;
            }
            one.logs[wood]--;
            other.logs[wood]++;
            return true;
        }

        private int hand(int a, int b, int wood) {
            if (!isCompany(a, b) || a == b || !isWood(wood)) {
                return BAD;
            }
            if (!give(fires.get(a).copy(), fires.get(b).copy(), wood)) {
                return NO;
            }
            remember();
            give(fires.get(a), fires.get(b), wood);
            return fires.get(b).logs[wood];
        }

        private int undo() {
            if (done.isEmpty()) {
                return NO;
            }
            then(done.removeLast());
            return done.size();
        }

        private int lasts(int c) {
            if (!isCompany(c)) {
                return BAD;
            }
            Hearth fire = fires.get(c).copy();
            int n = 0;
            while (fire.in()) {
                fire.hour(rainAt(hours + n));
                n++;
            }
            return n > 60 ? NONE : n;
        }

        /** All ways in their order, one after the other; the best so far. */
        private int[] bestWay(Hearth fire, int n) {
            int[] best = null;
            int fewest = 99;
            int ways = (int) Math.pow(5, n);
            for (int number = 0; number < ways; number++) {
                int[] way = new int[n];
                int logs = 0;
                for (int hour = n - 1, rest = number; hour >= 0; hour--, rest /= 5) {
                    way[hour] = rest % 5;
                    logs += way[hour] < 4 ? 1 : 0;
                }
                if (logs < fewest && staysIn(fire.copy(), way)) {
                    best = way;
                    fewest = logs;
                }
            }
            return best;
        }

        private boolean staysIn(Hearth fire, int[] way) {
            for (int hour = 0; hour < way.length; hour++) {
                if (way[hour] < 4 && !fire.put(way[hour], lines)) {
                    return false;
                }
                fire.hour(rainAt(hours + hour));
                if (!fire.in()) {
                    return false;
                }
            }
            return true;
        }

        private int stays(int c, int n, int k) {
            if (!isCompany(c) || n < 1 || n > 6 || k < -1) {
                return BAD;
            }
            if (!fires.get(c).in()) {
                return NO;
            }
            int[] way = bestWay(fires.get(c), n);
            if (way == null) {
                return NONE;
            }
            if (k == -1) {
                int logs = 0;
                for (int wood : way) {
                    logs += wood < 4 ? 1 : 0;
                }
                return logs;
            }
            return k >= n || way[k] == 4 ? NONE : way[k];
        }

        private int tell(int c, int l, int k) {
            if (!isCompany(c) || !isLine(l) || k < -1) {
                return BAD;
            }
            if (!fires.get(c).in()) {
                return NO;
            }
            for (int length = 0; length <= 6; length++) {
                for (int number = 0; number < 1 << 2 * length; number++) {
                    Hearth fire = fires.get(c).copy();
                    boolean can = true;
                    for (int i = 0; i < length && can; i++) {
                        can = fire.put(number >> 2 * (length - 1 - i) & 3, lines) && fire.in();
                    }
                    if (can && fire.line == l) {
                        return k == -1 ? length : k < length ? number >> 2 * (length - 1 - k) & 3 : NONE;
                    }
                }
            }
            return NONE;
        }

        private int next(int l, int wood) {
            char next = lines[l].charAt(wood);
            return next == '9' ? l : next - '0';
        }

        private int meet(int a, int b, int k) {
            if (!isCompany(a, b) || a == b || k < -1) {
                return BAD;
            }
            if (!fires.get(a).in() || !fires.get(b).in()) {
                return NO;
            }
            Map<List<Integer>, String> rows = new LinkedHashMap<>();
            Set<List<Integer>> been = new HashSet<>();
            rows.put(List.of(fires.get(a).line, fires.get(b).line), "");
            while (!rows.isEmpty()) {
                String first = null;
                for (Map.Entry<List<Integer>, String> row : rows.entrySet()) {
                    boolean met = row.getKey().get(0).equals(row.getKey().get(1));
                    if (met && (first == null || row.getValue().compareTo(first) < 0)) {
                        first = row.getValue();
                    }
                }
                if (first != null) {
                    return k == -1 ? first.length() : k < first.length() ? first.charAt(k) - '0' : NONE;
                }
                been.addAll(rows.keySet());
                rows = longer(rows, been);
            }
            return NONE;
        }

        private Map<List<Integer>, String> longer(Map<List<Integer>, String> rows, Set<List<Integer>> been) {
            Map<List<Integer>, String> longer = new LinkedHashMap<>();
            for (Map.Entry<List<Integer>, String> row : rows.entrySet()) {
                for (int wood = 0; wood < 4; wood++) {
                    List<Integer> pair = List.of(next(row.getKey().get(0), wood), next(row.getKey().get(1), wood));
                    String way = row.getValue() + wood;
                    if (!been.contains(pair) && (!longer.containsKey(pair) || way.compareTo(longer.get(pair)) < 0)) {
                        longer.put(pair, way);
                    }
                }
            }
            return longer;
        }

        private int can(int c) {
            if (!isCompany(c)) {
                return BAD;
            }
            if (!fires.get(c).in()) {
                return NO;
            }
            Set<Integer> reached = new HashSet<>();
            Deque<Integer> open = new ArrayDeque<>();
            open.add(fires.get(c).line);
            while (!open.isEmpty()) {
                int l = open.remove();
                if (reached.add(l)) {
                    for (int wood = 0; wood < 4; wood++) {
                        open.add(next(l, wood));
                    }
                }
            }
            int bits = 0;
            for (int l : reached) {
                bits += 1 << l;
            }
            return bits;
        }

        private int give(int a, int b, int n) {
            if (!isCompany(a, b) || a == b || n < 1 || n > 6) {
                return BAD;
            }
            if (!fires.get(a).in() || !fires.get(b).in()) {
                return NO;
            }
            for (int wood = 0; wood < 4; wood++) {
                Hearth one = fires.get(a).copy();
                Hearth other = fires.get(b).copy();
                if (give(one, other, wood) && bestWay(one, n) != null && bestWay(other, n) != null) {
                    return wood;
                }
            }
            return NONE;
        }

        private int see(int wood) {
            if (!isWood(wood)) {
                return BAD;
            }
            if (seen.size() == 6) {
                return FULL;
            }
            seen.add(wood);
            return seen.size();
        }

        private int forget() {
            int size = seen.size();
            seen.clear();
            return size;
        }

        private int from(int c) {
            if (!isCompany(c)) {
                return BAD;
            }
            if (!fires.get(c).in()) {
                return NO;
            }
            int bits = 0;
            for (int start = 0; start < lines.length; start++) {
                int l = start;
                for (int wood : seen) {
                    l = next(l, wood);
                }
                bits += l == fires.get(c).line ? 1 << start : 0;
            }
            return bits;
        }

        private int rows(int c, int start, int n) {
            if (!isCompany(c) || !isLine(start) || n < 0 || n > 8) {
                return BAD;
            }
            if (!fires.get(c).in()) {
                return NO;
            }
            int rows = 0;
            for (int number = 0; number < 1 << 2 * n; number++) {
                int l = start;
                for (int i = 0; i < n; i++) {
                    l = next(l, number >> 2 * i & 3);
                }
                rows += l == fires.get(c).line ? 1 : 0;
            }
            return rows;
        }

        private int rains(int c, int n, int x, int part) {
            if (!isCompany(c) || n < 0 || n > 8 || x < 0 || x > 10 || part < 0 || part > 1) {
                return BAD;
            }
            BigInteger above = BigInteger.ZERO;
            for (int more = 0; more < 1 << n; more++) {
                Hearth fire = fires.get(c).copy();
                for (int i = 0; i < n; i++) {
                    fire.hour(rainAt(hours + i) + 2 * (more >> i & 1));
                }
                int wet = Integer.bitCount(more);
                if (fire.in()) {
                    above = above.add(BigInteger.valueOf(x).pow(wet).multiply(BigInteger.valueOf(10 - x).pow(n - wet)));
                }
            }
            BigInteger below = BigInteger.TEN.pow(n);
            BigInteger shared = above.gcd(below);
            return (part == 0 ? above : below).divide(shared).intValueExact();
        }

        private int winter(int z, int n, int what) {
            if (z < 0 || z > 9999 || n < 1 || n > 60 || what < 0 || what > 1) {
                return BAD;
            }
            Object[] before = now();
            int toldBefore = told();
            for (int k = 0; k < n; k++) {
                BigInteger x = BigInteger.valueOf(7919L * z + 6151L * k + 1);
                int draw = x.multiply(x).mod(BigInteger.valueOf(65521)).intValueExact();
                int c = draw / 8 % fires.size();
                switch (draw % 8) {
                    case 5: kindle(c, draw / 64 % fires.size()); break;
                    case 6: case 7: hour(); break;
                    default: fires.get(c).put(draw / 64 % 4, lines);
                }
            }
            int answer = what == 0 ? in() : told() - toldBefore;
            then(before);
            return answer;
        }

        private int told() {
            int told = 0;
            for (Hearth fire : fires) {
                told += fire.told;
            }
            return told;
        }

        private int keep() {
            if (kept.size() == 2) {
                return FULL;
            }
            kept.addLast(now());
            return kept.size();
        }

        private int back() {
            if (kept.isEmpty()) {
                return NO;
            }
            then(kept.removeLast());
            done.clear();
            return kept.size();
        }

        private int count(int what) {
            int logs = 0;
            for (Hearth fire : fires) {
                logs += Arrays.stream(fire.logs).sum();
            }
            int[] counts = {lines.length, fires.size(), hours, in(), logs, told(), seen.size(), done.size(),
                kept.size(), text.length()};
            return what < 0 || what > 9 ? BAD : counts[what];
        }
    }
}
