/**
 * A feast march: it goes by whoever leads it, each of them once. Words in capitals are those of the
 * document. Everything a call needs is made in the constructor: no call makes an object.
 */
public final class FeastMarch {
    public static final int BAD = -1, STATE = -2, FULL = -3, NONE = -9;
    public static final int NO = -1000000;

    private static final int MAX_CORNERS = 8;
    private static final int MAX_STREETS = 12;
    private static final int MAX_LEADERS = 6;
    private static final int MAX_FEET = 5;
    private static final int MAX_TEXT = 150;
    private static final int MAX_UNDONE = 10;
    private static final int MAX_SEEN = 6;
    private static final int MAX_PLAN = 6;
    private static final int MAX_HOURS_LONG = 9;
    private static final int MAX_ROWS = 720;
    /** Each street is taken but once each way. */
    private static final int MAX_HOURS = 2 * MAX_STREETS * MAX_HOURS_LONG;
    private static final int IMAGES = 2;

    private static final int DOOR = 0;
    private static final int NO_WAY = 99;
    private static final int NOT_ONE = -5;
    private static final int FAULTS = -10;
    private static final int ALL_STREETS = (1 << MAX_STREETS) - 1;

    private final Text text = new Text();
    private City map = new City();
    private City draft = new City();
    private final March march = new March();
    private final History history = new History();
    private final Image[] images = new Image[IMAGES];
    private final Row row = new Row();
    private final Outlook outlook = new Outlook();
    private final Sights sights = new Sights();
    private final Plan plan = new Plan();
    private long traced;

    public FeastMarch() {
        for (int i = 0; i < IMAGES; i++) {
            images[i] = new Image();
        }
    }

    // ---- the city

    public int type(int c) {
        if (c < 0 || c > 255) {
            return BAD;
        }
        return text.append(c) ? text.length : FULL;
    }

    public int clear() {
        int had = text.length;
        text.length = 0;
        return had;
    }

    public int city() {
        int items = text.read(draft);
        if (items < 0) {
            return items;
        }
        draft.measure();
        City old = map;
        map = draft;
        draft = old;
        text.length = 0;
        begin();
        return items;
    }

    public int street(int s, int what) {
        if (!map.hasStreet(s)) {
            return BAD;
        }
        switch (what) {
            case 0: return map.first[s];
            case 1: return map.second[s];
            case 2: return map.hours[s];
            case 3: return march.waysTaken(s);
            case 4: return march.shut >> s & 1;
            default: return BAD;
        }
    }

    public int leader(int l, int what) {
        if (!map.hasLeader(l)) {
            return BAD;
        }
        switch (what) {
            case 0: return map.home[l];
            case 1: return map.feet[l];
            case 2: return march.led >> l & 1;
            default: return BAD;
        }
    }

    public int far(int a, int b) {
        return map.hasCorner(a) && map.hasCorner(b) ? map.far[a][b] : BAD;
    }

    // ---- what is done

    public int leads(int l) {
        if (!map.hasLeader(l)) {
            return BAD;
        }
        if (march.hasLed(l)) {
            return STATE;
        }
        history.remember(march);
        march.goBy(map, l);
        outlook.fresh = false;
        return march.at;
    }

    public int shuts(int s, int is) {
        if (!map.hasStreet(s) || is < 0 || is > 1) {
            return BAD;
        }
        if ((march.shut >> s & 1) == is) {
            return STATE;
        }
        history.remember(march);
        march.shut ^= 1 << s;
        outlook.fresh = false;
        return Integer.bitCount(march.shut);
    }

    public int undo() {
        if (history.size == 0) {
            return STATE;
        }
        history.restore(march);
        outlook.fresh = false;
        return history.size;
    }

    public int now(int what) {
        switch (what) {
            case 0: return whereabouts(march);
            case 1: return march.hour;
            case 2: return march.fines;
            case 3: return march.led;
            case 4: return march.walked();
            case 5: return march.shut;
            default: return BAD;
        }
    }

    // ---- rows

    public int order(int i) {
        if (i < -3 || i >= MAX_LEADERS) {
            return BAD;
        }
        lookOut();
        switch (i) {
            case -3: return outlook.hours;
            case -2: return outlook.fines;
            case -1: return outlook.door;
            default: return i < outlook.size ? outlook.best[i] : NONE;
        }
    }

    public int most(int i) {
        if (i < -1 || i >= MAX_LEADERS) {
            return BAD;
        }
        lookOut();
        if (i == -1) {
            return outlook.longestWalked;
        }
        return i < outlook.size ? outlook.longest[i] : NONE;
    }

    public int rows(int what) {
        if (what < 0 || what > 5) {
            return BAD;
        }
        lookOut();
        switch (what) {
            case 0: return map.streetBits() & ~outlook.walked;
            case 1: return outlook.ends;
            case 2: return outlook.happy;
            case 3: return outlook.leastBread;
            case 4: return outlook.mostBread;
            default: return outlook.hides;
        }
    }

    // ---- what was seen

    public int saw(int k, int c) {
        if (k < 0 || k >= MAX_LEADERS || !map.hasCorner(c)) {
            return BAD;
        }
        return sights.add(k, c) ? sights.size : FULL;
    }

    public int forget() {
        int had = sights.size;
        sights.size = 0;
        return had;
    }

    public int fits(int k) {
        if (k < -1 || k >= MAX_LEADERS) {
            return BAD;
        }
        int fitting = 0;
        int surely = NONE;
        row.begin(map, march);
        for (int n = 0; n < MAX_ROWS; n++) {
            row.walk(map, march);
            if (sights.agreeWith(row)) {
                fitting++;
                surely = agreed(surely, row.leaderAt(k));
            }
            if (!row.next()) {
                break;
            }
        }
        return k == -1 ? fitting : surely;
    }

    // ---- a plan

    public int plans(int l) {
        if (!map.hasLeader(l)) {
            return BAD;
        }
        return plan.add(l) ? plan.size : FULL;
    }

    public int drops() {
        int had = plan.size;
        plan.size = 0;
        return had;
    }

    public int planned(int what) {
        if (what < 0 || what > 3) {
            return BAD;
        }
        plan.choose(march);
        plan.walk(map, march, plan.everybody());
        switch (what) {
            case 0: return whereabouts(plan.march);
            case 1: return plan.march.hour - march.hour;
            case 2: return plan.march.fines - march.fines;
            default: return plan.going;
        }
    }

    public int odds(int x, int what) {
        if (x < 0 || x > 10 || what < 0 || what > 1) {
            return BAD;
        }
        plan.choose(march);
        int whole = plan.wholeOfOdds();
        int part = 0;
        for (int who = 0; who <= plan.everybody(); who++) {
            plan.walk(map, march, who);
            if (isHome(plan.march)) {
                part += plan.oddsOf(who, x);
            }
        }
        int common = commonDivisor(part, whole);
        if (common == 0) {
            return BAD;
        }
        return (what == 0 ? part : whole) / common;
    }

    // ---- kinds, images

    public int mark(int kind, int s) {
        if (!map.hasStreet(s)) {
            return NO;
        }
        switch (kind) {
            case 0: return askStreet(s);
            case 1: return askAlley(s);
            case 2: return askBridge(s);
            case 3: return askCourt(s);
            case 4: return askQuay(s);
            case 5: return askLane(s);
            default: return NO;
        }
    }

    public int keep(int image) {
        if (image < 0 || image >= IMAGES) {
            return BAD;
        }
        images[image].take(march, history);
        return march.hour;
    }

    public int back(int image) {
        if (image < 0 || image >= IMAGES) {
            return BAD;
        }
        if (!images[image].kept) {
            return STATE;
        }
        images[image].give(march, history);
        outlook.fresh = false;
        return march.hour;
    }

    public int count(int what) {
        switch (what) {
            case 0: return map.corners;
            case 1: return map.streets;
            case 2: return map.leaders;
            case 3: return sights.size;
            case 4: return plan.size;
            case 5: return history.size;
            case 6: return text.length;
            default: return BAD;
        }
    }

    public long trace() {
        return traced;
    }

    // ---- helpers

    /** All that a city read anew begins with; THE TRACE stays. */
    private void begin() {
        march.begin();
        history.size = 0;
        for (int i = 0; i < IMAGES; i++) {
            images[i].kept = false;
        }
        sights.size = 0;
        plan.size = 0;
        outlook.fresh = false;
    }

    private int whereabouts(March m) {
        return map.corners > 0 ? m.at : NONE;
    }

    /** Whether a march is at THE DOOR; without CORNERS there is none. */
    private boolean isHome(March m) {
        return map.corners > 0 && m.at == DOOR;
    }

    /** Many calls ask about the same ROWS, so they are walked once for each NOW. */
    private void lookOut() {
        if (outlook.fresh) {
            return;
        }
        outlook.begin(march);
        row.begin(map, march);
        for (int n = 0; n < MAX_ROWS; n++) {
            row.walk(map, march);
            outlook.take(row, march, isHome(row.march));
            if (!row.next()) {
                break;
            }
        }
        if (map.corners == 0) {
            outlook.ends = 0;
        }
        outlook.fresh = true;
    }

    /** Who surely leads, after one more ROW by which a LEADER (or NONE) does. */
    private static int agreed(int before, int leader) {
        return before == NONE || before == leader ? leader : NOT_ONE;
    }

    private static int commonDivisor(int a, int b) {
        int x = a;
        int y = b;
        for (int i = 0; i < 100 && y != 0; i++) {
            int rest = x % y;
            x = y;
            y = rest;
        }
        return x;
    }

    private int askStreet(int s) {
        traced += 1;
        return map.hours[s];
    }

    private int askAlley(int s) {
        traced += 10;
        return askStreet(s) + Integer.bitCount(march.waysTaken(s));
    }

    private int askBridge(int s) {
        traced += 100;
        return askStreet(s) - map.second[s];
    }

    private int askCourt(int s) {
        traced += 1000;
        return askAlley(s) * 2;
    }

    private int askQuay(int s) {
        traced += 10000;
        return askBridge(s) + march.fines;
    }

    private int askLane(int s) {
        traced += 100000;
        return askStreet(s) + march.hour;
    }

    /** THE TEXT, and how it is read, TOKEN by TOKEN. */
    private static final class Text {
        /**
         * What a TOKEN is. No ITEM begins with several letters and none takes a NUMBER above 9, so
         * LETTER and NUMBER are of one sign; what is longer can't stand anywhere.
         */
        private static final int END = 0, LETTER = 1, NUMBER = 2, STOP = 3, WRONG = 4;

        final int[] bytes = new int[MAX_TEXT];
        int length;
        private int place;
        private int start;
        private int token;
        private int value;

        boolean append(int c) {
            if (length >= MAX_TEXT) {
                return false;
            }
            bytes[length] = c;
            length++;
            return true;
        }

        /** Reads all into a city: how many ITEMS, or -10 less FAULT. */
        int read(City into) {
            into.empty();
            place = 0;
            for (int items = 0; items < MAX_TEXT; items++) {
                advance();
                if (token == END) {
                    return items;
                }
                if (!readItem(into, items == 0)) {
                    break;
                }
            }
            return FAULTS - start;
        }

        private boolean readItem(City into, boolean isFirst) {
            if (token != LETTER) {
                return false;
            }
            switch (value) {
                case 'c': return isFirst && readCorners(into);
                case 's': return !isFirst && into.streets < MAX_STREETS && readStreet(into);
                case 'l': return !isFirst && into.leaders < MAX_LEADERS && readLeader(into);
                default: return false;
            }
        }

        private boolean readCorners(City into) {
            if (!readNumber(1, MAX_CORNERS)) {
                return false;
            }
            into.corners = value;
            return readStop();
        }

        private boolean readStreet(City into) {
            if (!readNumber(0, into.corners - 1)) {
                return false;
            }
            int a = value;
            if (!readNumber(0, into.corners - 1) || value == a) {
                return false;
            }
            int b = value;
            if (!readNumber(1, MAX_HOURS_LONG)) {
                return false;
            }
            into.addStreet(a, b, value);
            return readStop();
        }

        private boolean readLeader(City into) {
            if (!readNumber(0, into.corners - 1)) {
                return false;
            }
            int home = value;
            if (!readNumber(1, MAX_FEET)) {
                return false;
            }
            into.addLeader(home, value);
            return readStop();
        }

        private boolean readNumber(int least, int greatest) {
            advance();
            return token == NUMBER && value >= least && value <= greatest;
        }

        private boolean readStop() {
            advance();
            return token == STOP;
        }

        /** The next TOKEN; start is the place of its first byte, at the end the text's length. */
        private void advance() {
            skip(' ', ' ');
            start = place;
            if (skip('0', '9')) {
                token = place - start == 1 ? NUMBER : WRONG;
                value = bytes[start] - '0';
            } else if (skip('a', 'z')) {
                token = place - start == 1 ? LETTER : WRONG;
                value = bytes[start];
            } else if (place < length) {
                token = bytes[place] == ';' ? STOP : WRONG;
                place++;
            } else {
                token = END;
            }
        }

        /** Goes on behind all bytes from low to high that are next: whether there were any. */
        private boolean skip(int low, int high) {
            int from = place;
            while (place < length && bytes[place] >= low && bytes[place] <= high) {
                place++;
            }
            return place > from;
        }
    }

    /**
     * What a text told. A way is a street from its first CORNER (its number) or from its second one
     * (its number and MAX_STREETS).
     */
    private static final class City {
        int corners;
        int streets;
        int leaders;
        final int[] first = new int[MAX_STREETS];
        final int[] second = new int[MAX_STREETS];
        final int[] hours = new int[MAX_STREETS];
        final int[] home = new int[MAX_LEADERS];
        final int[] feet = new int[MAX_LEADERS];
        final int[][] far = new int[MAX_CORNERS][MAX_CORNERS];

        void empty() {
            corners = 0;
            streets = 0;
            leaders = 0;
        }

        void addStreet(int a, int b, int hoursLong) {
            if (streets < MAX_STREETS && hasCorner(a) && hasCorner(b)) {
                first[streets] = a;
                second[streets] = b;
                hours[streets] = hoursLong;
                streets++;
            }
        }

        void addLeader(int where, int streetsHeLeads) {
            if (leaders < MAX_LEADERS && hasCorner(where)) {
                home[leaders] = where;
                feet[leaders] = streetsHeLeads;
                leaders++;
            }
        }

        boolean hasCorner(int c) {
            return c >= 0 && c < corners;
        }

        boolean hasStreet(int s) {
            return s >= 0 && s < streets;
        }

        boolean hasLeader(int l) {
            return l >= 0 && l < leaders;
        }

        int streetBits() {
            return (1 << streets) - 1;
        }

        /** FAR, from every CORNER to every other one. */
        void measure() {
            for (int a = 0; a < corners; a++) {
                for (int b = 0; b < corners; b++) {
                    far[a][b] = a == b ? 0 : NO_WAY;
                }
            }
            for (int s = 0; s < streets; s++) {
                int shortest = Math.min(hours[s], far[first[s]][second[s]]);
                far[first[s]][second[s]] = shortest;
                far[second[s]][first[s]] = shortest;
            }
            for (int by = 0; by < corners; by++) {
                for (int a = 0; a < corners; a++) {
                    for (int b = 0; b < corners; b++) {
                        far[a][b] = Math.min(far[a][b], far[a][by] + far[by][b]);
                    }
                }
            }
        }

        /** The way of a street from a corner; NONE, if it has no end there. */
        private int wayFrom(int s, int corner) {
            if (first[s] == corner) {
                return s;
            }
            return second[s] == corner ? s + MAX_STREETS : NONE;
        }

        /** The way from a corner that who lives there wants, of those not barred (bits); NONE. */
        int wantedWay(int corner, int hisHome, int barred) {
            int wanted = NONE;
            int leastFar = 0;
            int leastHours = 0;
            for (int s = 0; s < streets; s++) {
                int way = wayFrom(s, corner);
                if (way == NONE || (barred >> way & 1) == 1) {
                    continue;
                }
                int itsFar = far[otherEnd(way)][hisHome];
                if (wanted == NONE || itsFar < leastFar
                        || itsFar == leastFar && hours[s] < leastHours) {
                    wanted = way;
                    leastFar = itsFar;
                    leastHours = hours[s];
                }
            }
            return wanted;
        }

        int otherEnd(int way) {
            return way < MAX_STREETS ? second[way] : first[way - MAX_STREETS];
        }

        int hoursOf(int way) {
            return hours[way % MAX_STREETS];
        }
    }

    /** Where the march is, and all that came of it; who LED, what is TAKEN (ways) and SHUT are bits. */
    private static final class March {
        int at;
        int hour;
        int fines;
        int led;
        int taken;
        int shut;

        void begin() {
            at = DOOR;
            hour = 0;
            fines = 0;
            led = 0;
            taken = 0;
            shut = 0;
        }

        void become(March other) {
            at = other.at;
            hour = other.hour;
            fines = other.fines;
            led = other.led;
            taken = other.taken;
            shut = other.shut;
        }

        boolean hasLed(int l) {
            return (led >> l & 1) == 1;
        }

        int waysTaken(int s) {
            return taken >> s & 1 | (taken >> s + MAX_STREETS & 1) << 1;
        }

        int walked() {
            return (taken | taken >> MAX_STREETS) & ALL_STREETS;
        }

        /** LED by a leader: whether it STANDS. */
        boolean goBy(City city, int l) {
            if (!city.hasLeader(l)) {
                return false;
            }
            int home = city.home[l];
            int feet = city.feet[l];
            boolean stands = false;
            led |= 1 << l;
            for (int gone = 0; gone < feet && (gone == 0 || at != home); gone++) {
                int way = city.wantedWay(at, home, taken | shut | shut << MAX_STREETS);
                if (way == NONE) {
                    fines++;
                    stands = true;
                    break;
                }
                taken |= 1 << way;
                hour += city.hoursOf(way);
                at = city.otherEnd(way);
            }
            return stands;
        }
    }

    /** What may be UNDONE: the march as it was ahead of each, the latest last. */
    private static final class History {
        final March[] past = new March[MAX_UNDONE];
        int size;

        History() {
            for (int i = 0; i < MAX_UNDONE; i++) {
                past[i] = new March();
            }
        }

        void remember(March march) {
            if (size == MAX_UNDONE) {
                loseOldest();
            }
            past[size].become(march);
            size++;
        }

        private void loseOldest() {
            for (int i = 1; i < size; i++) {
                past[i - 1].become(past[i]);
            }
            size--;
        }

        void restore(March march) {
            if (size > 0) {
                size--;
                march.become(past[size]);
            }
        }

        void become(History other) {
            size = other.size;
            for (int i = 0; i < size; i++) {
                past[i].become(other.past[i]);
            }
        }
    }

    /** An IMAGE of NOW. */
    private static final class Image {
        boolean kept;
        private final March march = new March();
        private final History history = new History();

        void take(March now, History past) {
            march.become(now);
            history.become(past);
            kept = true;
        }

        void give(March now, History past) {
            now.become(march);
            past.become(history);
        }
    }

    /** A ROW: as told, as they lead, and what comes of it. */
    private static final class Row {
        final int[] told = new int[MAX_LEADERS];
        final int[] leading = new int[MAX_LEADERS];
        final int[] ended = new int[MAX_LEADERS];
        final March march = new March();
        int size;
        int homes;

        /** The first ROW of all, by numbers. */
        void begin(City city, March now) {
            size = 0;
            for (int l = 0; l < city.leaders; l++) {
                if (!now.hasLed(l)) {
                    told[size] = l;
                    size++;
                }
            }
        }

        /** The ROW behind this one, by numbers; false: this is the last. */
        boolean next() {
            int i = size - 2;
            while (i >= 0 && told[i] > told[i + 1]) {
                i--;
            }
            if (i < 0) {
                return false;
            }
            int j = size - 1;
            while (j > i + 1 && told[j] < told[i]) {
                j--;
            }
            swap(i, j);
            int low = i + 1;
            for (int high = size - 1; low < high; high--) {
                swap(low, high);
                low++;
            }
            return true;
        }

        private void swap(int i, int j) {
            int l = told[i];
            told[i] = told[j];
            told[j] = l;
        }

        void walk(City city, March now) {
            march.become(now);
            homes = 0;
            int front = 0;
            int rear = size - 1;
            boolean turned = false;
            for (int k = 0; k < size; k++) {
                int l = turned ? told[rear] : told[front];
                if (turned) {
                    rear--;
                } else {
                    front++;
                }
                if (march.goBy(city, l)) {
                    turned = !turned;
                }
                leading[k] = l;
                ended[k] = march.at;
                if (march.at == city.home[l]) {
                    homes++;
                }
            }
        }

        /** Who leads as k-th (as they lead); NONE: not so many. */
        int leaderAt(int k) {
            return k >= 0 && k < size ? leading[k] : NONE;
        }
    }

    /** What all ROWS together tell; stale as soon as NOW changes. */
    private static final class Outlook {
        boolean fresh;
        int size;
        final int[] best = new int[MAX_LEADERS];
        int door;
        int fines;
        int hours;
        final int[] longest = new int[MAX_LEADERS];
        int longestWalked;
        int walked;
        int ends;
        int happy;
        int leastBread;
        int mostBread;
        int hides;

        void begin(March now) {
            size = 0;
            door = NONE;
            longestWalked = NONE;
            walked = now.walked();
            ends = 0;
            happy = 0;
            leastBread = MAX_HOURS;
            mostBread = 0;
            hides = 0;
        }

        void take(Row row, March now, boolean isHome) {
            March end = row.march;
            size = row.size;
            int itsHours = end.hour - now.hour;
            takeBest(row, isHome ? 1 : 0, end.fines - now.fines, itsHours);
            takeLongest(row);
            walked |= end.walked();
            ends |= 1 << end.at;
            happy = Math.max(happy, row.homes);
            leastBread = Math.min(leastBread, itsHours);
            mostBread = Math.max(mostBread, itsHours);
            if (isHome && size > 0) {
                hides |= 1 << row.leading[size - 1];
            }
        }

        /** ROWS come by numbers, so of several equally good ones the one taken first stays. */
        private void takeBest(Row row, int itsDoor, int itsFines, int itsHours) {
            if (itsDoor < door || itsDoor == door
                    && (itsFines > fines || itsFines == fines && itsHours >= hours)) {
                return;
            }
            door = itsDoor;
            fines = itsFines;
            hours = itsHours;
            System.arraycopy(row.told, 0, best, 0, size);
        }

        private void takeLongest(Row row) {
            int itsWalked = Integer.bitCount(row.march.walked());
            if (itsWalked > longestWalked) {
                longestWalked = itsWalked;
                System.arraycopy(row.told, 0, longest, 0, size);
            }
        }
    }

    /** What was SEEN. */
    private static final class Sights {
        private final int[] as = new int[MAX_SEEN];
        private final int[] corner = new int[MAX_SEEN];
        int size;

        boolean add(int k, int c) {
            if (size >= MAX_SEEN) {
                return false;
            }
            as[size] = k;
            corner[size] = c;
            size++;
            return true;
        }

        boolean agreeWith(Row row) {
            for (int i = 0; i < size; i++) {
                if (as[i] >= row.size || row.ended[as[i]] != corner[i]) {
                    return false;
                }
            }
            return true;
        }
    }

    /** PLAN, and those of it who would lead. */
    private static final class Plan {
        private final int[] told = new int[MAX_PLAN];
        private final int[] able = new int[MAX_PLAN];
        final March march = new March();
        int size;
        int going;

        boolean add(int l) {
            if (size >= MAX_PLAN) {
                return false;
            }
            told[size] = l;
            size++;
            return true;
        }

        /** Those who did not lead yet, each once. */
        void choose(March now) {
            int gone = now.led;
            going = 0;
            for (int i = 0; i < size; i++) {
                if ((gone >> told[i] & 1) == 0) {
                    gone |= 1 << told[i];
                    able[going] = told[i];
                    going++;
                }
            }
        }

        int everybody() {
            return (1 << going) - 1;
        }

        /** Those of them lead who are told by bits (the i-th by the i-th bit). */
        void walk(City city, March now, int who) {
            march.become(now);
            for (int i = 0; i < going; i++) {
                if ((who >> i & 1) == 1) {
                    march.goBy(city, able[i]);
                }
            }
        }

        int wholeOfOdds() {
            int whole = 1;
            for (int i = 0; i < going; i++) {
                whole *= 10;
            }
            return whole;
        }

        /** Of that whole: that just those lead, when each faints by x in 10. */
        int oddsOf(int who, int x) {
            int part = 1;
            for (int i = 0; i < going; i++) {
                part *= (who >> i & 1) == 1 ? 10 - x : x;
            }
            return part;
        }
    }
}
