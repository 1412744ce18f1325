/** The campfires of up to four companies, and the tale that is told at them: shared/DOC.md says what each call answers. */
public final class EmberTale {
    public static final int BAD = -1, NO = -2, FULL = -3, NONE = -4;

    private static final int WOODS = 4, OAK = 0, PINE = 1, WET = 2, GREEN = 3;
    private static final int MOST_LETTERS = 200, MOST_LINES = 9, MOST_RAINS = 8, MOST_COMPANIES = 4;
    private static final int MOST_HOT = 20, MOST_LOGS = 99;
    private static final int MOST_UNDONE = 8, MOST_KEPT = 2, MOST_SEEN = 6;
    private static final int MOST_HOURS_KEPT_IN = 6, MOST_LOGS_TOLD = 6;
    private static final String FIRST_TEXT =
            "t1203;t2194;t4330;t0952;t5149;t9995;r0;r1;r0;r2;c0,9,3,2,1,2;c2,5,1,4,2,0;c0,12,0,0,3,3;";

    private final Row text = new Row(MOST_LETTERS);
    private final Row seen = new Row(MOST_SEEN);
    private final Tale tale = new Tale();
    private final Camp camp = new Camp(tale);
    private final Camp trial = new Camp(tale);
    private final Shelf past = new Shelf(MOST_UNDONE, tale);
    private final Shelf kept = new Shelf(MOST_KEPT, tale);
    private final Reader reader = new Reader(text);
    private final Keeper keeper = new Keeper(tale);
    private final Teller teller = new Teller(tale);
    private final Meeter meeter = new Meeter(tale);
    private final Chance chance = new Chance(tale);

    public EmberTale() {
        for (int i = 0; i < FIRST_TEXT.length(); i++) {
            text.add(FIRST_TEXT.charAt(i));
        }
        layText();
        text.clear();
    }

    // ---- camps.

    public int write(int letter) {
        if (!within(letter, 32, 126)) {
            return BAD;
        }
        if (text.isFull()) {
            return FULL;
        }
        text.add(letter);
        return text.size();
    }

    public int wipe() {
        int length = text.size();
        text.clear();
        return length;
    }

    public int fault() {
        return reader.firstFault();
    }

    public int lay() {
        return layText() ? camp.companies() : NO;
    }

    public int line(int l, int wood) {
        return tale.isLine(l) && isWood(wood) ? tale.behind(l, wood) : BAD;
    }

    public int rain(int n) {
        return within(n, 0, 99) ? tale.rainAt(camp.hours() + n) : BAD;
    }

    public int company(int c, int what) {
        return camp.isCompany(c) && within(what, 0, Camp.NUMBERS - 1) ? camp.get(c, what) : BAD;
    }

    // ---- at the fires.

    public int put(int c, int wood) {
        if (!camp.isCompany(c) || !isWood(wood)) {
            return BAD;
        }
        if (!camp.canFeed(c, wood)) {
            return NO;
        }
        past.push(camp);
        camp.feed(c, wood);
        return camp.get(c, Camp.LINE);
    }

    public int pass(int n) {
        if (!within(n, 1, 24)) {
            return BAD;
        }
        past.push(camp);
        for (int i = 0; i < n; i++) {
            camp.burnAnHour();
        }
        return camp.firesIn();
    }

    public int light(int a, int b) {
        if (!areTwo(a, b)) {
            return BAD;
        }
        if (!camp.canKindle(a, b)) {
            return NO;
        }
        past.push(camp);
        camp.kindle(a, b);
        return camp.get(a, Camp.LINE);
    }

    public int join(int a, int b) {
        if (!areTwo(a, b)) {
            return BAD;
        }
        if (!camp.isIn(a) || !camp.isIn(b)) {
            return NO;
        }
        past.push(camp);
        camp.merge(a, b);
        return camp.get(a, Camp.LINE);
    }

    public int hand(int a, int b, int wood) {
        if (!areTwo(a, b) || !isWood(wood)) {
            return BAD;
        }
        if (!camp.canMove(a, b, wood)) {
            return NO;
        }
        past.push(camp);
        camp.move(a, b, wood);
        return camp.get(b, Camp.LOGS + wood);
    }

    public int undo() {
        return past.pop(camp) ? past.size() : NO;
    }

    // ---- what can be.

    public int lasts(int c) {
        return camp.isCompany(c) ? camp.hoursLeft(c) : BAD;
    }

    public int stays(int c, int n, int k) {
        if (!camp.isCompany(c) || !within(n, 1, MOST_HOURS_KEPT_IN) || k < -1) {
            return BAD;
        }
        if (!camp.isIn(c)) {
            return NO;
        }
        int logs = keeper.fewest(camp, c, n);
        return k == -1 || logs == NONE ? logs : keeper.woodAhead(k);
    }

    public int tell(int c, int l, int k) {
        if (!camp.isCompany(c) || !tale.isLine(l) || k < -1) {
            return BAD;
        }
        if (!camp.isIn(c)) {
            return NO;
        }
        int logs = teller.fewest(camp, c, l);
        return k == -1 || logs == NONE ? logs : teller.woodAt(k);
    }

    public int meet(int a, int b, int k) {
        if (!areTwo(a, b) || k < -1) {
            return BAD;
        }
        if (!camp.isIn(a) || !camp.isIn(b)) {
            return NO;
        }
        int length = meeter.shortest(camp.get(a, Camp.LINE), camp.get(b, Camp.LINE));
        return k == -1 || length == NONE ? length : meeter.woodAt(k);
    }

    public int can(int c) {
        if (!camp.isCompany(c)) {
            return BAD;
        }
        return camp.isIn(c) ? tale.reached(camp.get(c, Camp.LINE)) : NO;
    }

    public int give(int a, int b, int n) {
        if (!areTwo(a, b) || !within(n, 1, MOST_HOURS_KEPT_IN)) {
            return BAD;
        }
        if (!camp.isIn(a) || !camp.isIn(b)) {
            return NO;
        }
        for (int wood = 0; wood < WOODS; wood++) {
            if (wouldHelp(a, b, wood, n)) {
                return wood;
            }
        }
        return NONE;
    }

    // ---- what was seen.

    public int see(int wood) {
        if (!isWood(wood)) {
            return BAD;
        }
        if (seen.isFull()) {
            return FULL;
        }
        seen.add(wood);
        return seen.size();
    }

    public int forget() {
        int size = seen.size();
        seen.clear();
        return size;
    }

    public int from(int c) {
        if (!camp.isCompany(c)) {
            return BAD;
        }
        return camp.isIn(c) ? tale.origins(seen, camp.get(c, Camp.LINE)) : NO;
    }

    public int rows(int c, int l, int n) {
        if (!camp.isCompany(c) || !tale.isLine(l) || !within(n, 0, 8)) {
            return BAD;
        }
        return camp.isIn(c) ? tale.waysBetween(l, camp.get(c, Camp.LINE), n) : NO;
    }

    // ---- rain, winters.

    public int rains(int c, int n, int x, int part) {
        if (!camp.isCompany(c) || !within(n, 0, 8) || !within(x, 0, 10) || !within(part, 0, 1)) {
            return BAD;
        }
        return chance.ofBeingIn(camp, c, n, x, part);
    }

    public int winter(int z, int n, int what) {
        if (!within(z, 0, 9999) || !within(n, 1, 60) || !within(what, 0, 1)) {
            return BAD;
        }
        trial.become(camp);
        for (int k = 0; k < n; k++) {
            trial.meetDraw(draw(z, k));
        }
        return what == 0 ? trial.firesIn() : trial.linesTold() - camp.linesTold();
    }

    public int keep() {
        if (kept.isFull()) {
            return FULL;
        }
        kept.push(camp);
        return kept.size();
    }

    public int back() {
        if (!kept.pop(camp)) {
            return NO;
        }
        past.clear();
        return kept.size();
    }

    public int count(int what) {
        switch (what) {
            case 0: return tale.lines();
            case 1: return camp.companies();
            case 2: return camp.hours();
            case 3: return camp.firesIn();
            case 4: return camp.allLogs();
            case 5: return camp.linesTold();
            case 6: return seen.size();
            case 7: return past.size();
            case 8: return kept.size();
            case 9: return text.size();
            default: return BAD;
        }
    }

    private boolean layText() {
        if (reader.firstFault() != NONE || !reader.readAWhole()) {
            return false;
        }
        tale.become(reader.tale());
        camp.become(reader.camp());
        seen.clear();
        past.clear();
        kept.clear();
        return true;
    }

    private boolean wouldHelp(int a, int b, int wood, int n) {
        if (!camp.canMove(a, b, wood)) {
            return false;
        }
        trial.become(camp);
        trial.move(a, b, wood);
        return keeper.fewest(trial, a, n) != NONE && keeper.fewest(trial, b, n) != NONE;
    }

    private boolean areTwo(int a, int b) {
        return camp.isCompany(a) && camp.isCompany(b) && a != b;
    }

    private static int draw(int z, int k) {
        long x = 7919L * z + 6151L * k + 1;
        return (int) (x * x % 65521);
    }

    private static boolean isWood(int wood) {
        return wood >= 0 && wood < WOODS;
    }

    private static boolean within(int number, int low, int high) {
        return number >= low && number <= high;
    }

    /** A row of numbers with a bound: outside of it reading answers NONE and writing does nothing. */
    private static final class Row {
        private final int[] cells;
        private int size;

        Row(int most) {
            cells = new int[Math.max(0, most)];
        }

        int size() {
            return size;
        }

        boolean isFull() {
            return size >= cells.length;
        }

        void clear() {
            size = 0;
        }

        void add(int number) {
            if (size >= 0 && size < cells.length) {
                cells[size] = number;
                size++;
            }
        }

        int get(int place) {
            return place >= 0 && place < size && place < cells.length ? cells[place] : NONE;
        }

        void set(int place, int number) {
            if (place >= 0 && place < size && place < cells.length) {
                cells[place] = number;
            }
        }

        void fill(int number) {
            size = cells.length;
            for (int i = 0; i < cells.length; i++) {
                cells[i] = number;
            }
        }

        void become(Row other) {
            clear();
            for (int i = 0; i < other.size(); i++) {
                add(other.get(i));
            }
        }
    }

    /** How hot a fire is behind a log or an hour; 0 is OUT. */
    private static final class Fire {
        private Fire() {
        }

        static int fed(int hot, int wood) {
            return Math.max(0, Math.min(MOST_HOT, hot + heatOf(wood)));
        }

        static int burnt(int hot, int last, int rain) {
            int loss = 1;
            if (last != GREEN) {
                loss += rain;
            }
            if (last == PINE) {
                loss++;
            }
            return Math.max(0, hot - loss);
        }

        private static int heatOf(int wood) {
            switch (wood) {
                case OAK: return 4;
                case PINE: return 6;
                case WET: return -2;
                case GREEN: return 1;
                default: return 0;
            }
        }
    }

    /** The lines, which one comes behind which by which wood, and the rain. */
    private static final class Tale {
        private static final int STAYS = 9;

        private final Row next = new Row(MOST_LINES * WOODS);
        private final Row rainfall = new Row(MOST_RAINS);
        private final Row ways = new Row(MOST_LINES);
        private final Row waysBehind = new Row(MOST_LINES);
        private int lines;

        void clear() {
            lines = 0;
            next.clear();
            rainfall.clear();
        }

        void become(Tale other) {
            lines = other.lines;
            next.become(other.next);
            rainfall.become(other.rainfall);
        }

        boolean addLine(Row followers) {
            if (next.isFull()) {
                return false;
            }
            for (int wood = 0; wood < WOODS; wood++) {
                next.add(followers.get(wood));
            }
            lines++;
            return true;
        }

        boolean addRain(int amount) {
            if (rainfall.isFull() || !within(amount, 0, 3)) {
                return false;
            }
            rainfall.add(amount);
            return true;
        }

        int lines() {
            return lines;
        }

        boolean isLine(int l) {
            return l >= 0 && l < lines;
        }

        boolean tellsAllItNames() {
            for (int i = 0; i < next.size(); i++) {
                int named = next.get(i);
                if (named != STAYS && !isLine(named)) {
                    return false;
                }
            }
            return true;
        }

        int behind(int l, int wood) {
            if (!isLine(l) || !isWood(wood)) {
                return NONE;
            }
            int follower = next.get(l * WOODS + wood);
            return follower == STAYS ? NONE : follower;
        }

        int comingFrom(int l, int wood) {
            int follower = behind(l, wood);
            return follower == NONE ? l : follower;
        }

        int rainAt(int hour) {
            int amounts = rainfall.size();
            return amounts > 0 ? rainfall.get(Math.floorMod(hour, amounts)) : 0;
        }

        int reached(int start) {
            int bits = 1 << start;
            for (int step = 1; step < lines; step++) {
                bits |= oneStepOn(bits);
            }
            return bits;
        }

        private int oneStepOn(int bits) {
            int more = 0;
            for (int l = 0; l < lines; l++) {
                for (int wood = 0; wood < WOODS && (bits >> l & 1) == 1; wood++) {
                    more |= 1 << comingFrom(l, wood);
                }
            }
            return more;
        }

        int origins(Row woods, int end) {
            int bits = 0;
            for (int l = 0; l < lines; l++) {
                if (endOf(l, woods) == end) {
                    bits |= 1 << l;
                }
            }
            return bits;
        }

        private int endOf(int start, Row woods) {
            int l = start;
            for (int i = 0; i < woods.size(); i++) {
                l = comingFrom(l, woods.get(i));
            }
            return l;
        }

        int waysBetween(int start, int end, int length) {
            ways.fill(0);
            ways.set(start, 1);
            for (int i = 0; i < length; i++) {
                lengthenWays();
            }
            return ways.get(end);
        }

        private void lengthenWays() {
            waysBehind.fill(0);
            for (int l = 0; l < lines; l++) {
                for (int wood = 0; wood < WOODS; wood++) {
                    int follower = comingFrom(l, wood);
                    waysBehind.set(follower, waysBehind.get(follower) + ways.get(l));
                }
            }
            ways.become(waysBehind);
        }
    }

    /** All companies as they stand, and the hours gone by. */
    private static final class Camp {
        // A company's numbers, in the order in which company(c, what) tells them.
        static final int HOT = 0, LINE = 1, LOGS = 2, LAST = 6, TOLD = 7, NUMBERS = 8;

        private final Tale tale;
        private final Row numbers = new Row(MOST_COMPANIES * NUMBERS);
        private int hours;

        Camp(Tale tale) {
            this.tale = tale;
        }

        void clear() {
            numbers.clear();
            hours = 0;
        }

        void become(Camp other) {
            numbers.become(other.numbers);
            hours = other.hours;
        }

        /** told: the line, how hot, the logs of each wood. */
        boolean addCompany(Row told) {
            if (numbers.isFull() || !tale.isLine(told.get(0)) || !within(told.get(1), 1, MOST_HOT)) {
                return false;
            }
            for (int wood = 0; wood < WOODS; wood++) {
                if (!within(told.get(2 + wood), 0, 9)) {
                    return false;
                }
            }
            numbers.add(told.get(1));
            numbers.add(told.get(0));
            for (int wood = 0; wood < WOODS; wood++) {
                numbers.add(told.get(2 + wood));
            }
            numbers.add(NONE);
            numbers.add(0);
            return true;
        }

        int companies() {
            return numbers.size() / NUMBERS;
        }

        int hours() {
            return hours;
        }

        boolean isCompany(int c) {
            return within(c, 0, companies() - 1);
        }

        int get(int c, int what) {
            return numbers.get(c * NUMBERS + what);
        }

        private void set(int c, int what, int number) {
            numbers.set(c * NUMBERS + what, number);
        }

        private void change(int c, int what, int by) {
            set(c, what, get(c, what) + by);
        }

        boolean isIn(int c) {
            return get(c, HOT) >= 1;
        }

        boolean canFeed(int c, int wood) {
            return isIn(c) && get(c, LOGS + wood) >= 1;
        }

        void feed(int c, int wood) {
            change(c, LOGS + wood, -1);
            setHot(c, Fire.fed(get(c, HOT), wood));
            if (!isIn(c)) {
                return;
            }
            set(c, LAST, wood);
            int follower = tale.behind(get(c, LINE), wood);
            if (follower != NONE) {
                set(c, LINE, follower);
                change(c, TOLD, 1);
            }
        }

        private void setHot(int c, int hot) {
            set(c, HOT, hot);
            if (hot < 1) {
                set(c, LINE, NONE);
                set(c, LAST, NONE);
            }
        }

        void burnAnHour() {
            int rainNow = tale.rainAt(hours);
            for (int c = 0; c < companies(); c++) {
                if (isIn(c)) {
                    setHot(c, Fire.burnt(get(c, HOT), get(c, LAST), rainNow));
                }
            }
            hours++;
        }

        boolean canKindle(int a, int b) {
            return !isIn(a) && get(b, HOT) >= 4;
        }

        void kindle(int a, int b) {
            change(b, HOT, -1);
            set(a, HOT, 3);
            set(a, LINE, get(b, LINE));
            set(a, LAST, NONE);
        }

        void merge(int a, int b) {
            set(a, HOT, Math.min(MOST_HOT, get(a, HOT) + get(b, HOT)));
            set(a, LINE, Math.min(get(a, LINE), get(b, LINE)));
            for (int wood = 0; wood < WOODS; wood++) {
                int together = get(a, LOGS + wood) + get(b, LOGS + wood);
                set(a, LOGS + wood, Math.min(MOST_LOGS, together));
                set(b, LOGS + wood, 0);
            }
            setHot(b, 0);
        }

        boolean canMove(int a, int b, int wood) {
            return get(a, LOGS + wood) >= 1 && get(b, LOGS + wood) < MOST_LOGS;
        }

        void move(int a, int b, int wood) {
            change(a, LOGS + wood, -1);
            change(b, LOGS + wood, 1);
        }

        int hoursLeft(int c) {
            int hot = get(c, HOT);
            for (int n = 0; n <= 60; n++) {
                if (hot < 1) {
                    return n;
                }
                hot = Fire.burnt(hot, get(c, LAST), tale.rainAt(hours + n));
            }
            return NONE;
        }

        void meetDraw(int draw) {
            int companies = companies();
            if (companies < 1) {
                return;
            }
            int kind = draw % 8;
            int c = draw / 8 % companies;
            int wood = draw / 64 % WOODS;
            int giver = draw / 64 % companies;
            if (kind >= 6) {
                burnAnHour();
            } else if (kind == 5 && canKindle(c, giver)) {
                kindle(c, giver);
            } else if (kind <= 4 && canFeed(c, wood)) {
                feed(c, wood);
            }
        }

        int firesIn() {
            int fires = 0;
            for (int c = 0; c < companies(); c++) {
                if (isIn(c)) {
                    fires++;
                }
            }
            return fires;
        }

        int allLogs() {
            int logs = 0;
            for (int c = 0; c < companies(); c++) {
                for (int wood = 0; wood < WOODS; wood++) {
                    logs += get(c, LOGS + wood);
                }
            }
            return logs;
        }

        int linesTold() {
            int told = 0;
            for (int c = 0; c < companies(); c++) {
                told += get(c, TOLD);
            }
            return told;
        }
    }

    /** Copies of a camp, the latest one first to come back; one too many drops the oldest. */
    private static final class Shelf {
        private final Camp[] camps;
        private int first;
        private int size;

        Shelf(int most, Tale tale) {
            camps = new Camp[Math.max(1, most)];
            for (int i = 0; i < camps.length; i++) {
                camps[i] = new Camp(tale);
            }
        }

        int size() {
            return size;
        }

        boolean isFull() {
            return size >= camps.length;
        }

        void clear() {
            size = 0;
        }

        void push(Camp camp) {
            if (isFull()) {
                first++;
                size--;
            }
            Camp slot = slotOf(size);
            if (slot != null) {
                slot.become(camp);
                size++;
            }
        }

        boolean pop(Camp camp) {
            Camp slot = size > 0 ? slotOf(size - 1) : null;
            if (slot == null) {
                return false;
            }
            camp.become(slot);
            size--;
            return true;
        }

        private Camp slotOf(int place) {
            int slots = camps.length;
            return slots > 0 ? camps[Math.floorMod(first + place, slots)] : null;
        }
    }

    /** Reads the text into a tale and a camp of its own, so that a faulty text changes nothing. */
    private static final class Reader {
        private static final int COMPANY_NUMBERS = 6;

        private final Row text;
        private final Row numbers = new Row(COMPANY_NUMBERS);
        private final Tale tale = new Tale();
        private final Camp camp = new Camp(tale);
        private int place;

        Reader(Row text) {
            this.text = text;
        }

        Tale tale() {
            return tale;
        }

        Camp camp() {
            return camp;
        }

        /** Behind firstFault() that found none: has it a company, and are all lines told that it names? */
        boolean readAWhole() {
            return camp.companies() >= 1 && tale.tellsAllItNames();
        }

        int firstFault() {
            tale.clear();
            camp.clear();
            place = 0;
            for (int item = 0; item < MOST_LETTERS && place < text.size(); item++) {
                int start = place;
                if (!readItem()) {
                    return start;
                }
            }
            return NONE;
        }

        private boolean readItem() {
            switch (take()) {
                case 't': return readFigures(WOODS) && tale.addLine(numbers);
                case 'r': return readNumbers(1) && tale.addRain(numbers.get(0));
                case 'c': return readNumbers(COMPANY_NUMBERS) && camp.addCompany(numbers);
                default: return false;
            }
        }

        private boolean readFigures(int wanted) {
            numbers.clear();
            for (int i = 0; i < wanted; i++) {
                int figure = figureOf(take());
                if (figure == NONE) {
                    return false;
                }
                numbers.add(figure);
            }
            return take() == ';';
        }

        private boolean readNumbers(int wanted) {
            numbers.clear();
            for (int i = 0; i < wanted; i++) {
                int number = readNumber();
                char sign = i < wanted - 1 ? ',' : ';';
                if (number == NONE || take() != sign) {
                    return false;
                }
                numbers.add(number);
            }
            return true;
        }

        private int readNumber() {
            int first = figureOf(text.get(place));
            int second = figureOf(text.get(place + 1));
            if (first == NONE || second == NONE) {
                place++;
                return first;
            }
            place += 2;
            return 10 * first + second;
        }

        private int take() {
            int letter = text.get(place);
            place++;
            return letter;
        }

        private static int figureOf(int letter) {
            return letter >= '0' && letter <= '9' ? letter - '0' : NONE;
        }
    }

    /** Looks for the fewest logs by which a fire is kept in for some hours. */
    private static final class Keeper {
        private final Tale tale;
        private final Row logs = new Row(WOODS);
        private final Row way = new Row(MOST_HOURS_KEPT_IN);
        private int start;
        private int hours;

        Keeper(Tale tale) {
            this.tale = tale;
        }

        int fewest(Camp camp, int c, int n) {
            start = camp.hours();
            hours = Math.min(MOST_HOURS_KEPT_IN, n);
            logs.clear();
            for (int wood = 0; wood < WOODS; wood++) {
                logs.add(camp.get(c, Camp.LOGS + wood));
            }
            way.fill(NONE);
            for (int count = 0; count <= hours; count++) {
                if (isKept(0, camp.get(c, Camp.HOT), camp.get(c, Camp.LAST), count)) {
                    return count;
                }
            }
            return NONE;
        }

        /** The wood put on ahead of the hour, behind fewest(). */
        int woodAhead(int hour) {
            return hour < hours ? way.get(hour) : NONE;
        }

        /** Tries the ways that put on just so many logs more, from this hour on; the depth is the hour. */
        private boolean isKept(int hour, int hot, int last, int more) {
            if (hot < 1 || more > hours - hour) {
                return false;
            }
            if (hour >= hours) {
                return true;
            }
            for (int wood = 0; wood < WOODS && more > 0; wood++) {
                if (isKeptBy(wood, hour, hot, more)) {
                    return true;
                }
            }
            way.set(hour, NONE);
            return isKept(hour + 1, Fire.burnt(hot, last, tale.rainAt(start + hour)), last, more);
        }

        private boolean isKeptBy(int wood, int hour, int hot, int more) {
            int fed = Fire.fed(hot, wood);
            if (logs.get(wood) < 1 || fed < 1) {
                return false;
            }
            logs.set(wood, logs.get(wood) - 1);
            way.set(hour, wood);
            boolean kept = isKept(hour + 1, Fire.burnt(fed, wood, tale.rainAt(start + hour)), wood, more - 1);
            logs.set(wood, logs.get(wood) + 1);
            return kept;
        }
    }

    /** Looks for the fewest logs by which a fire comes to a line, no hour going by. */
    private static final class Teller {
        private final Tale tale;
        private final Row logs = new Row(WOODS);
        private final Row way = new Row(MOST_LOGS_TOLD);
        private int wanted;
        private int length;

        Teller(Tale tale) {
            this.tale = tale;
        }

        int fewest(Camp camp, int c, int l) {
            // A line that no wood leads to would be looked for the longest.
            if ((tale.reached(camp.get(c, Camp.LINE)) >> l & 1) == 0) {
                return NONE;
            }
            wanted = l;
            logs.clear();
            for (int wood = 0; wood < WOODS; wood++) {
                logs.add(camp.get(c, Camp.LOGS + wood));
            }
            way.fill(NONE);
            for (int count = 0; count <= MOST_LOGS_TOLD; count++) {
                length = count;
                if (isTold(0, camp.get(c, Camp.HOT), camp.get(c, Camp.LINE))) {
                    return count;
                }
            }
            return NONE;
        }

        /** The k-th wood, behind fewest(). */
        int woodAt(int k) {
            return k < length ? way.get(k) : NONE;
        }

        /** Tries the rows of the length in hand, from this place on; the depth is the place. */
        private boolean isTold(int place, int hot, int at) {
            if (place >= length) {
                return at == wanted;
            }
            for (int wood = 0; wood < WOODS; wood++) {
                if (isToldBy(wood, place, hot, at)) {
                    return true;
                }
            }
            return false;
        }

        private boolean isToldBy(int wood, int place, int hot, int at) {
            int fed = Fire.fed(hot, wood);
            if (logs.get(wood) < 1 || fed < 1) {
                return false;
            }
            logs.set(wood, logs.get(wood) - 1);
            way.set(place, wood);
            boolean told = isTold(place + 1, fed, tale.comingFrom(at, wood));
            logs.set(wood, logs.get(wood) + 1);
            return told;
        }
    }

    /** Looks for the shortest row of wood by which two lines come to the same one. */
    private static final class Meeter {
        private static final int PAIRS = MOST_LINES * MOST_LINES;

        private final Tale tale;
        // The pairs of lines in the order in which they are found: by length, then by their first row of wood.
        private final Row pairs = new Row(PAIRS);
        private final Row pairAhead = new Row(PAIRS);
        private final Row woodBy = new Row(PAIRS);
        private final Row found = new Row(PAIRS);
        private final Row wayBackwards = new Row(PAIRS);

        Meeter(Tale tale) {
            this.tale = tale;
        }

        int shortest(int a, int b) {
            pairs.clear();
            pairAhead.clear();
            woodBy.clear();
            wayBackwards.clear();
            found.fill(0);
            reach(a, b, NONE, NONE);
            for (int place = 0; place < PAIRS && place < pairs.size(); place++) {
                int first = pairs.get(place) / MOST_LINES;
                int second = pairs.get(place) % MOST_LINES;
                if (first == second) {
                    return traceBack(place);
                }
                for (int wood = 0; wood < WOODS; wood++) {
                    reach(tale.comingFrom(first, wood), tale.comingFrom(second, wood), place, wood);
                }
            }
            return NONE;
        }

        /** The k-th wood, behind shortest(). */
        int woodAt(int k) {
            return k < wayBackwards.size() ? wayBackwards.get(wayBackwards.size() - 1 - k) : NONE;
        }

        private void reach(int first, int second, int ahead, int wood) {
            int pair = first * MOST_LINES + second;
            if (found.get(pair) == 0) {
                found.set(pair, 1);
                pairs.add(pair);
                pairAhead.add(ahead);
                woodBy.add(wood);
            }
        }

        private int traceBack(int end) {
            int place = end;
            for (int i = 0; i < PAIRS && place > 0; i++) {
                wayBackwards.add(woodBy.get(place));
                place = pairAhead.get(place);
            }
            return wayBackwards.size();
        }
    }

    /** How likely a fire is in behind some hours, when it may rain more than is told. */
    private static final class Chance {
        private final Tale tale;
        // Of each heat: how many of the ways that the rain can go (ten an hour) lead to it.
        private final Row ways = new Row(MOST_HOT + 1);
        private final Row waysBehind = new Row(MOST_HOT + 1);

        Chance(Tale tale) {
            this.tale = tale;
        }

        int ofBeingIn(Camp camp, int c, int n, int x, int part) {
            ways.fill(0);
            ways.set(camp.get(c, Camp.HOT), 1);
            int below = 1;
            for (int hour = 0; hour < n; hour++) {
                burn(camp.get(c, Camp.LAST), tale.rainAt(camp.hours() + hour), x);
                below *= 10;
            }
            int above = 0;
            for (int hot = 1; hot <= MOST_HOT; hot++) {
                above += ways.get(hot);
            }
            int shared = commonDivisor(below, above);
            if (shared < 1) {
                return BAD;
            }
            return part == 0 ? above / shared : below / shared;
        }

        private void burn(int last, int rainNow, int x) {
            waysBehind.fill(0);
            for (int hot = 1; hot <= MOST_HOT; hot++) {
                addWays(Fire.burnt(hot, last, rainNow), ways.get(hot) * (10 - x));
                addWays(Fire.burnt(hot, last, rainNow + 2), ways.get(hot) * x);
            }
            ways.become(waysBehind);
        }

        private void addWays(int hot, int more) {
            waysBehind.set(hot, waysBehind.get(hot) + more);
        }

        private static int commonDivisor(int a, int b) {
            int large = a;
            int small = b;
            for (int i = 0; i < 100 && small > 0; i++) {
                int rest = large % small;
                large = small;
                small = rest;
            }
            return large;
        }
    }
}
