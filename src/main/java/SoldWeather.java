/** Tomorrow's weather to who pays most; ../shared/DOC.md tells what each call promises. */
public final class SoldWeather {
    public static final int NONE = -1, BAD = -2, STATE = -3, FULL = -4;

    private static final int NOTHING = -5;
    private static final int OTHER_KIND = -6;
    private static final int FAULT_BASE = -10;
    // Answers that may be below 0 themselves have their refusals far below all of them.
    private static final int FAR_NONE = -10001;
    private static final int FAR_BAD = -10002;

    private static final int WEATHERS = 4;
    private static final int KINDS = 7;
    private static final int LAST_DAY = 99;
    private static final int WEEK = 7;
    private static final int MOST_PEOPLE = 8;
    private static final int MOST_VALLEYS = 5;
    private static final int MOST_SIGNS = 120;
    private static final int MOST_CLAUSES = 10;
    private static final int MOST_OPEN = 5;
    private static final int MOST_FORTUNE = 12;
    private static final int MOST_BESIDE = 20;
    private static final int MOST_BOOK = 12;
    private static final int MOST_V = 9;
    private static final int MOST_PURSE = 999;
    private static final int MOST_TOLD = 99;
    private static final int MOST_SPILL = 99;
    private static final int MOST_RUN = 40;
    private static final int MOST_BEST = 8;
    private static final int MOST_LIE = 40;
    private static final int MOST_TRACE = 20;

    private final World now = new World();
    private final Reader reader = new Reader(now.tape);
    private final Course course = new Course(now);
    // Its first element tells how many bodies ran, the others tell which.
    private final int[] trail = new int[1 + MOST_TRACE];
    private final int[] tally = new int[MOST_PEOPLE];
    private final int[] planned = new int[MOST_BEST * WEATHERS];
    private final int[] plannedWorth = new int[(MOST_BEST + 1) * WEATHERS];
    // Null till image() is called first.
    private World kept;

    public SoldWeather() {
    }

    // ---- valleys, people

    public int feed(int sign) {
        if (sign < 0 || sign > 127) {
            return BAD;
        }
        if (now.signs >= MOST_SIGNS) {
            return FULL;
        }
        now.tape[now.signs] = sign;
        now.signs++;
        return now.signs;
    }

    public int valley() {
        if (now.valleys >= MOST_VALLEYS) {
            return FULL;
        }
        int fault = reader.faultOf(now.signs);
        now.signs = 0;
        if (fault >= 0) {
            return FAULT_BASE - fault;
        }
        now.held = reader.made();
        now.valleys++;
        return now.valleys - 1;
    }

    public int told(int what) {
        switch (what) {
            case 0:
                return now.payRule();
            case 1:
                return now.giftEach();
            case 2:
                return now.day;
            case 3:
                return now.ahead;
            case 4:
                return now.fortuneAt(now.turn);
            default:
                return NONE;
        }
    }

    public int fortune(int weather) {
        int many = grown(now.fortune, now.fortunes, weather);
        if (many >= 0) {
            now.fortunes = many;
            now.turn = 0;
        }
        return many;
    }

    public int person(int kind, int v, int purse) {
        int number = now.size;
        if (!isKind(kind)) {
            return NONE;
        }
        if (v < 0 || v > MOST_V || purse < 0 || purse > MOST_PURSE) {
            return BAD;
        }
        if (number >= MOST_PEOPLE) {
            return FULL;
        }
        now.people[number] = ofKind(kind, number, v);
        now.purses[number] = purse;
        now.size++;
        return number;
    }

    public int row(int person, int weather, int n) {
        Bidder one = now.one(person);
        if (one == null || !isWeather(weather)) {
            return NONE;
        }
        if (n < 0 || n > MOST_TOLD) {
            return BAD;
        }
        if (!(one instanceof Told)) {
            return STATE;
        }
        int place = person * WEATHERS + weather;
        int before = now.rows[place];
        now.rows[place] = n;
        return before;
    }

    public int of(int person, int what) {
        Bidder one = now.one(person);
        if (one == null) {
            return FAR_NONE;
        }
        if (isWeather(what - 10)) {
            course.begin();
            course.ask(person);
            return course.bidOf(person, what - 10);
        }
        if (isWeather(what - 20)) {
            course.begin();
            return course.worthTo(person, what - 20);
        }
        switch (what) {
            case 0:
                return one.kind;
            case 1:
                return one.v;
            case 2:
                return now.purses[person];
            default:
                return FAR_NONE;
        }
    }

    // ---- evenings

    public int go() {
        if (now.day >= LAST_DAY) {
            return STATE;
        }
        course.begin();
        course.open();
        course.close();
        course.keep();
        return now.ahead;
    }

    public int sold(int what) {
        boolean ofOne = now.isOne(what - 10);
        if (what != 0 && what != 1 && !ofOne) {
            return FAR_NONE;
        }
        course.begin();
        course.open();
        if (ofOne) {
            return course.due(what - 10);
        }
        return what == 0 ? course.sold : course.bidsFor(course.sold);
    }

    public int run(int n, int what) {
        boolean ofOne = now.isOne(what - 10);
        if (!ofOne && (what < 0 || what > 2)) {
            return FAR_NONE;
        }
        if (n < 0 || n > MOST_RUN) {
            return FAR_BAD;
        }
        int last = NOTHING;
        int worth = 0;
        int paid = 0;
        course.begin();
        for (int i = 0; i < n; i++) {
            course.open();
            last = course.sold;
            worth += course.worthToAll(last);
            paid += course.close();
        }
        if (ofOne) {
            return course.purseOf(what - 10);
        }
        return what == 0 ? last : what == 1 ? worth : paid;
    }

    public int best(int n, int k) {
        if (n < 1 || n > MOST_BEST) {
            return FAR_BAD;
        }
        if (k < -1 || k >= n) {
            return FAR_NONE;
        }
        for (int w = 0; w < WEATHERS; w++) {
            plannedWorth[n * WEATHERS + w] = 0;
        }
        for (int i = n - 1; i >= 0; i--) {
            for (int y = 0; y < WEATHERS; y++) {
                planDay(i, y);
            }
        }
        if (k < 0) {
            return plannedWorth[now.ahead];
        }
        int weather = now.ahead;
        for (int i = 0; i <= k; i++) {
            weather = planned[i * WEATHERS + weather];
        }
        return weather;
    }

    public int truly(int person, int what) {
        if (!now.isOne(person) || what < 0 || what > 2) {
            return NONE;
        }
        course.begin();
        course.open();
        int honest = course.gain(person);
        int most = honest;
        int weather = NOTHING;
        int bid = NOTHING;
        int highest = Math.min(MOST_LIE, course.purseOf(person));
        for (int w = 0; w < WEATHERS; w++) {
            for (int b = 0; b <= highest; b++) {
                int gain = course.gainByLie(person, w, b);
                if (gain > most) {
                    most = gain;
                    weather = w;
                    bid = b;
                }
            }
        }
        return what == 0 ? most - honest : what == 1 ? weather : bid;
    }

    public int harm(int person) {
        if (!now.isOne(person)) {
            return NONE;
        }
        course.begin();
        course.open();
        return course.harmBy(person);
    }

    public int leagues(int what) {
        if (what < 0 || what > 1) {
            return NONE;
        }
        course.begin();
        course.open();
        for (int p = 0; p < now.size; p++) {
            tally[p] = course.gain(p);
        }
        int many = 0;
        int first = NOTHING;
        for (int p = 0; p < now.size; p++) {
            for (int q = p + 1; q < now.size; q++) {
                if (course.gainTogether(p, q) > tally[p] + tally[q]) {
                    first = many == 0 ? 10 * p + q : first;
                    many++;
                }
            }
        }
        return what == 0 ? many : first;
    }

    // ---- a valley beside, the poor, books

    public int beside(int weather) {
        int many = grown(now.beside, now.besides, weather);
        if (many >= 0) {
            now.besides = many;
        }
        return many;
    }

    public int spill(int m, int n) {
        if (!isRun(m) || n < 0 || n > MOST_SPILL) {
            return FAR_BAD;
        }
        int all = 0;
        course.begin();
        for (int i = 0; i < m; i++) {
            course.open();
            all += course.worthToAll(course.sold);
            if (i < now.besides && now.beside[i] == course.sold) {
                all += n * now.size;
            }
            course.close();
        }
        return all;
    }

    public int poor(int n, int what) {
        if (what < 0 || what > 1) {
            return NONE;
        }
        if (!isRun(n)) {
            return BAD;
        }
        for (int p = 0; p < now.size; p++) {
            tally[p] = 0;
        }
        int poorOnes = (1 << now.size) - 1;
        course.begin();
        for (int i = 0; i < n; i++) {
            course.open();
            poorOnes &= ~tallyWorth();
            course.close();
        }
        return what == 0 ? poorOnes : tallySpan();
    }

    public long worse(int n) {
        if (!isRun(n)) {
            return BAD;
        }
        long days = 0L;
        course.begin();
        for (int i = 0; i < n; i++) {
            course.open();
            if (course.worthToAll(course.sold) < course.worthToAll(course.fortuneNext())) {
                days |= 1L << i;
            }
            course.close();
        }
        return days;
    }

    public int book(int weather) {
        int many = grown(now.book, now.booked, weather);
        if (many >= 0) {
            now.booked = many;
        }
        return many;
    }

    public int looked() {
        course.begin();
        for (int i = 0; i < now.booked; i++) {
            course.open();
            if (course.sold != now.book[i]) {
                return i;
            }
            course.close();
        }
        return NOTHING;
    }

    // ---- acts, the image

    public int act(int person, int act, int x) {
        trail[0] = 0;
        Bidder one = now.one(person);
        if (one == null) {
            return 0;
        }
        switch (act) {
            case 0:
                return one.bids(x, trail);
            case 1:
                return one.pays(x, trail);
            case 2:
                return one.tells(x, trail);
            default:
                return 0;
        }
    }

    public int trace(int i) {
        if (i < 0 || i >= Math.min(trail[0], MOST_TRACE)) {
            return NONE;
        }
        return trail[1 + i];
    }

    public int as(int person, int k) {
        Bidder one = now.one(person);
        if (one == null || !isKind(k)) {
            return NONE;
        }
        return isUnder(one, k) ? one.v : OTHER_KIND;
    }

    public int image() {
        if (kept == null) {
            kept = new World();
        }
        kept.becomeLike(now);
        return now.size;
    }

    public int undo() {
        if (kept == null) {
            return STATE;
        }
        now.becomeLike(kept);
        return now.size;
    }

    public int count(int what) {
        switch (what) {
            case 0:
                return now.size;
            case 1:
                return now.valleys;
            case 2:
                return now.fortunes;
            case 3:
                return now.besides;
            case 4:
                return now.booked;
            case 5:
                return now.signs;
            case 6:
                return trail[0];
            default:
                return NONE;
        }
    }

    private static boolean isWeather(int weather) {
        return weather >= 0 && weather < WEATHERS;
    }

    private static boolean isKind(int kind) {
        return kind >= 0 && kind < KINDS;
    }

    private static boolean isRun(int n) {
        return n >= 1 && n <= MOST_RUN;
    }

    /** How many a row of WEATHERS told by hand has then, or why it stays as it is. */
    private static int grown(int[] row, int many, int weather) {
        if (weather == -1) {
            return 0;
        }
        if (!isWeather(weather)) {
            return NONE;
        }
        if (many < 0 || many >= row.length) {
            return FULL;
        }
        row[many] = weather;
        return many + 1;
    }

    private static Bidder ofKind(int kind, int number, int v) {
        switch (kind) {
            case 1:
                return new Low(kind, number, v);
            case 2:
                return new League(kind, number, v);
            case 3:
                return new Ahead(kind, number, v);
            case 4:
                return new Saving(kind, number, v);
            case 5:
                return new Sharing(kind, number, v);
            case 6:
                return new Told(kind, number, v);
            default:
                return new Bidder(kind, number, v);
        }
    }

    private static boolean isUnder(Bidder one, int k) {
        switch (k) {
            case 0:
                return true;
            case 1:
                return one instanceof Low;
            case 2:
                return one instanceof League;
            case 3:
                return one instanceof Ahead;
            case 4:
                return one instanceof Saving;
            case 5:
                return one instanceof Sharing;
            default:
                return one instanceof Told;
        }
    }

    // Goes from the last DAY to the first, so that the least WEATHER of several gives the first row.
    private void planDay(int i, int y) {
        int pick = 0;
        int most = 0;
        for (int w = 0; w < WEATHERS; w++) {
            int all = course.worthToAllOn(w, now.day + i, y) + plannedWorth[(i + 1) * WEATHERS + w];
            if (w == 0 || all > most) {
                most = all;
                pick = w;
            }
        }
        planned[i * WEATHERS + y] = pick;
        plannedWorth[i * WEATHERS + y] = most;
    }

    /** Adds to each one's tally; answers, as bits, those to whom what is SOLD has WORTH above 0. */
    private int tallyWorth() {
        int glad = 0;
        for (int p = 0; p < now.size; p++) {
            int worth = course.worthTo(p, course.sold);
            tally[p] += worth;
            if (worth > 0) {
                glad |= 1 << p;
            }
        }
        return glad;
    }

    private int tallySpan() {
        int least = tally[0];
        int most = tally[0];
        for (int p = 1; p < now.size; p++) {
            least = Math.min(least, tally[p]);
            most = Math.max(most, tally[p]);
        }
        return now.size == 0 ? 0 : most - least;
    }

    /** All that THE IMAGE holds. People never change, so an image may share them; purses and rows do. */
    private static final class World {
        final int[] tape = new int[MOST_SIGNS];
        int signs;
        int valleys;
        // Null without a VALLEY.
        Valley held;
        int day;
        int ahead;
        final int[] fortune = new int[MOST_FORTUNE];
        int fortunes;
        int turn;
        final Bidder[] people = new Bidder[MOST_PEOPLE];
        final int[] purses = new int[MOST_PEOPLE];
        final int[] rows = new int[MOST_PEOPLE * WEATHERS];
        int size;
        final int[] beside = new int[MOST_BESIDE];
        int besides;
        final int[] book = new int[MOST_BOOK];
        int booked;

        World() {
            for (int w = 0; w < WEATHERS; w++) {
                fortune[w] = w;
            }
            fortunes = WEATHERS;
        }

        void becomeLike(World other) {
            System.arraycopy(other.tape, 0, tape, 0, MOST_SIGNS);
            signs = other.signs;
            valleys = other.valleys;
            held = other.held;
            day = other.day;
            ahead = other.ahead;
            System.arraycopy(other.fortune, 0, fortune, 0, MOST_FORTUNE);
            fortunes = other.fortunes;
            turn = other.turn;
            for (int p = 0; p < MOST_PEOPLE; p++) {
                people[p] = other.people[p];
            }
            System.arraycopy(other.purses, 0, purses, 0, MOST_PEOPLE);
            System.arraycopy(other.rows, 0, rows, 0, MOST_PEOPLE * WEATHERS);
            size = other.size;
            System.arraycopy(other.beside, 0, beside, 0, MOST_BESIDE);
            besides = other.besides;
            System.arraycopy(other.book, 0, book, 0, MOST_BOOK);
            booked = other.booked;
        }

        boolean isOne(int p) {
            return p >= 0 && p < size;
        }

        /** Null: there is no such one. */
        Bidder one(int p) {
            return isOne(p) ? people[p] : null;
        }

        int payRule() {
            return held == null ? 0 : held.rule;
        }

        int giftEach() {
            return held == null ? 0 : held.gift;
        }

        int fortuneAt(int place) {
            return place >= 0 && place < fortunes ? fortune[place] : 0;
        }

        int turnBehind(int place) {
            return place + 1 < fortunes ? place + 1 : 0;
        }
    }

    /** EVENINGS gone through beside the world, which stays as it is till keep() is called. */
    private static final class Course {
        private final World world;
        private final int[] purses = new int[MOST_PEOPLE];
        private final int[] bids = new int[MOST_PEOPLE * WEATHERS];
        private final int[] sums = new int[WEATHERS];
        // What a TEST may ask for: w, y, d, p, k.
        private final int[] given = new int[5];
        private boolean anyBid;
        private int turn;
        int day;
        int ahead;
        int sold;

        Course(World world) {
            this.world = world;
        }

        void begin() {
            day = world.day;
            ahead = world.ahead;
            turn = world.turn;
            System.arraycopy(world.purses, 0, purses, 0, MOST_PEOPLE);
        }

        void keep() {
            world.day = day;
            world.ahead = ahead;
            world.turn = turn;
            System.arraycopy(purses, 0, world.purses, 0, MOST_PEOPLE);
        }

        void open() {
            for (int p = 0; p < world.size; p++) {
                ask(p);
            }
            settle();
        }

        void ask(int p) {
            Bidder one = world.one(p);
            if (one == null) {
                return;
            }
            for (int w = 0; w < WEATHERS; w++) {
                putBid(p, w, one.wish(this, w));
            }
        }

        private void putBid(int p, int w, int wish) {
            bids[p * WEATHERS + w] = Math.max(0, Math.min(purses[p], wish));
        }

        private void settle() {
            int best = 0;
            for (int w = 0; w < WEATHERS; w++) {
                sums[w] = 0;
                for (int p = 0; p < world.size; p++) {
                    sums[w] += bids[p * WEATHERS + w];
                }
                if (sums[w] > sums[best]) {
                    best = w;
                }
            }
            anyBid = sums[best] > 0;
            sold = anyBid ? best : fortuneNext();
        }

        /** What one of the PEOPLE PAYS. */
        int due(int p) {
            if (!anyBid) {
                return 0;
            }
            int bid = bidOf(p, sold);
            switch (world.payRule()) {
                case 1:
                    return harmBy(p);
                case 2:
                    return Math.max(0, bid - rebate());
                default:
                    return bid;
            }
        }

        int harmBy(int p) {
            int most = 0;
            for (int w = 0; w < WEATHERS; w++) {
                most = Math.max(most, sums[w] - bidOf(p, w));
            }
            return most - (sums[sold] - bidOf(p, sold));
        }

        private int rebate() {
            int bidders = 0;
            for (int p = 0; p < world.size; p++) {
                if (bidOf(p, sold) > 0) {
                    bidders++;
                }
            }
            int next = 0;
            for (int w = 0; w < WEATHERS; w++) {
                if (w != sold) {
                    next = Math.max(next, sums[w]);
                }
            }
            return bidders == 0 ? 0 : (sums[sold] - next) / bidders;
        }

        /** Ends the EVENING: all that is PAID. */
        int close() {
            int paid = 0;
            int gift = world.giftEach();
            for (int p = 0; p < world.size; p++) {
                int due = due(p);
                paid += due;
                purses[p] = Math.min(MOST_PURSE, Math.max(0, purses[p] - due) + gift);
            }
            if (!anyBid) {
                turn = world.turnBehind(turn);
            }
            day++;
            ahead = sold;
            return paid;
        }

        int fortuneNext() {
            return world.fortuneAt(turn);
        }

        int purseOf(int p) {
            return purses[p];
        }

        int bidOf(int p, int w) {
            return bids[p * WEATHERS + w];
        }

        int bidsFor(int w) {
            return sums[w];
        }

        int gain(int p) {
            return worthTo(p, sold) - due(p);
        }

        int gainByLie(int p, int w, int b) {
            int place = p * WEATHERS + w;
            int honest = bids[place];
            bids[place] = b;
            settle();
            int gain = gain(p);
            bids[place] = honest;
            return gain;
        }

        int gainTogether(int p, int q) {
            for (int w = 0; w < WEATHERS; w++) {
                int half = (worthTo(p, w) + worthTo(q, w)) / 2;
                putBid(p, w, half);
                putBid(q, w, half);
            }
            settle();
            int gains = gain(p) + gain(q);
            ask(p);
            ask(q);
            return gains;
        }

        int rowOf(int p, int w) {
            return world.rows[p * WEATHERS + w];
        }

        Bidder one(int p) {
            return world.one(p);
        }

        int worthTo(int p, int w) {
            return worth(world.one(p), w, day, ahead);
        }

        int worthToAll(int w) {
            return worthToAllOn(w, day, ahead);
        }

        int worthToAllOn(int w, int onDay, int y) {
            int all = 0;
            for (int p = 0; p < world.size; p++) {
                all += worth(world.one(p), w, onDay, y);
            }
            return all;
        }

        int worth(Bidder one, int w, int onDay, int y) {
            Valley held = world.held;
            if (held == null || one == null) {
                return 0;
            }
            given[0] = w;
            given[1] = y;
            given[2] = onDay % WEEK;
            given[3] = one.number;
            given[4] = one.kind;
            return held.worth(given);
        }
    }

    /** CLAUSES as code: a TEST is a number of 0 or more, behind its operands stands each NOT, AND, OR. */
    private static final class Valley {
        static final int NOT = -1;
        static final int AND = -2;
        static final int OR = -3;
        static final int NUMBERS = 100;
        static final int SIGNS = 3;

        private final int[] code;
        private final int[] ends;
        private final int[] amounts;
        final int rule;
        final int gift;

        Valley(int[] code, int[] ends, int[] amounts, int rule, int gift) {
            this.code = code;
            this.ends = ends;
            this.amounts = amounts;
            this.rule = rule;
            this.gift = gift;
        }

        int worth(int[] given) {
            int all = 0;
            int from = 0;
            for (int i = 0; i < ends.length; i++) {
                if (holds(from, ends[i], given)) {
                    all += amounts[i];
                }
                from = ends[i];
            }
            return all;
        }

        // The bits of one int are stack enough: 5 open ( hold two operands each at most.
        private boolean holds(int from, int to, int[] given) {
            int stack = 0;
            for (int i = from; i < to; i++) {
                int step = code[i];
                if (step >= 0) {
                    int one = given[step / (NUMBERS * SIGNS)];
                    int other = step % NUMBERS;
                    int sign = one < other ? 0 : one > other ? 2 : 1;
                    stack = stack << 1 | (step / NUMBERS % SIGNS == sign ? 1 : 0);
                } else if (step == NOT) {
                    stack ^= 1;
                } else {
                    int right = stack & 1;
                    stack = stack >> 1;
                    stack = step == AND ? stack & (right | ~1) : stack | right;
                }
            }
            return (stack & 1) == 1;
        }
    }

    /** Reads THE TAPE. Where a method answers false or -1, at is the FAULT. */
    private static final class Reader {
        private static final int END = -1;

        private final int[] code = new int[MOST_SIGNS];
        private final int[] ends = new int[MOST_CLAUSES];
        private final int[] amounts = new int[MOST_CLAUSES];
        private int steps;
        private int valued;
        private int rule;
        private int gift;
        private final int[] tape;
        private int size;
        private int at;
        private int next;

        Reader(int[] tape) {
            this.tape = tape;
        }

        /** -1: all is a VALLEY, which made() brings then. */
        int faultOf(int signs) {
            size = Math.min(signs, tape.length);
            at = -1;
            step();
            steps = 0;
            valued = 0;
            rule = 0;
            gift = 0;
            for (int i = 0; i < MOST_CLAUSES; i++) {
                if (!clause()) {
                    return at;
                }
                if (next == END) {
                    return -1;
                }
                if (next != ';' || i == MOST_CLAUSES - 1) {
                    return at;
                }
                step();
            }
            return at;
        }

        Valley made() {
            return new Valley(head(code, steps), head(ends, valued), head(amounts, valued), rule, gift);
        }

        private static int[] head(int[] from, int many) {
            int[] part = new int[many];
            System.arraycopy(from, 0, part, 0, many);
            return part;
        }

        private void step() {
            at++;
            next = at < size ? tape[at] : END;
        }

        private boolean clause() {
            int first = next;
            if (!word(wordOf(first))) {
                return false;
            }
            int n = first == 'r' ? ruleNumber() : number();
            if (n < 0) {
                return false;
            }
            if (first == 'r') {
                rule = n;
                return true;
            }
            if (first == 'g') {
                gift = n;
                return true;
            }
            return word(" ") && expression(0) && keepClause(first == 'w' ? n : -n);
        }

        // What begins no word is measured against one that it doesn't begin: so the fault is its own place.
        private static String wordOf(int first) {
            switch (first) {
                case 'h':
                    return "harm ";
                case 'r':
                    return "rule ";
                case 'g':
                    return "gift ";
                default:
                    return "worth ";
            }
        }

        private boolean word(String text) {
            for (int i = 0; i < text.length(); i++) {
                if (next != text.charAt(i)) {
                    return false;
                }
                step();
            }
            return true;
        }

        private int ruleNumber() {
            if (next < '0' || next > '2') {
                return -1;
            }
            int n = next - '0';
            step();
            return n;
        }

        private int number() {
            if (next < '0' || next > '9') {
                return -1;
            }
            int n = next - '0';
            step();
            if (n == 0 || next < '0' || next > '9') {
                return n;
            }
            n = n * 10 + next - '0';
            step();
            return n;
        }

        private boolean keepClause(int amount) {
            if (valued >= MOST_CLAUSES) {
                return false;
            }
            amounts[valued] = amount;
            ends[valued] = steps;
            valued++;
            return true;
        }

        private boolean expression(int open) {
            boolean both = false;
            boolean either = false;
            for (int i = 0; i < MOST_SIGNS; i++) {
                if (!factor(open)) {
                    return false;
                }
                if (both) {
                    put(Valley.AND);
                }
                both = next == '&';
                if (!both && either) {
                    put(Valley.OR);
                }
                either = both ? either : next == '|';
                if (!both && !either) {
                    return true;
                }
                step();
            }
            return false;
        }

        private boolean factor(int open) {
            if (next != '!' && next != '(') {
                return test();
            }
            if (open >= MOST_OPEN) {
                return false;
            }
            boolean not = next == '!';
            step();
            if (not) {
                return factor(open + 1) && put(Valley.NOT);
            }
            return expression(open + 1) && word(")");
        }

        private boolean test() {
            int asked = askedBy(next);
            if (asked < 0) {
                return false;
            }
            step();
            if (next < '<' || next > '>') {
                return false;
            }
            int sign = next - '<';
            step();
            int n = number();
            return n >= 0 && put((asked * Valley.SIGNS + sign) * Valley.NUMBERS + n);
        }

        private static int askedBy(int letter) {
            switch (letter) {
                case 'w':
                    return 0;
                case 'y':
                    return 1;
                case 'd':
                    return 2;
                case 'p':
                    return 3;
                case 'k':
                    return 4;
                default:
                    return -1;
            }
        }

        // Never refuses: each step of code has a byte of THE TAPE to itself at least.
        private boolean put(int step) {
            if (steps >= MOST_SIGNS) {
                return false;
            }
            code[steps] = step;
            steps++;
            return true;
        }
    }

    /** KIND 0, above all others. */
    private static class Bidder {
        final int kind;
        final int number;
        final int v;

        Bidder(int kind, int number, int v) {
            this.kind = kind;
            this.number = number;
            this.v = v;
        }

        /** The BID before it is held between 0 and the PURSE. */
        int wish(Course evening, int w) {
            return evening.worth(this, w, evening.day, evening.ahead);
        }

        int bids(int x, int[] trail) {
            began(trail, 1);
            return x + number;
        }

        int pays(int x, int[] trail) {
            began(trail, 2);
            return bids(x, trail) - v;
        }

        int tells(int x, int[] trail) {
            began(trail, 3);
            return pays(x, trail) * 2;
        }

        static void began(int[] trail, int body) {
            trail[0]++;
            if (trail[0] > 0 && trail[0] < trail.length) {
                trail[trail[0]] = body;
            }
        }
    }

    private static class Low extends Bidder {
        Low(int kind, int number, int v) {
            super(kind, number, v);
        }

        int wish(Course evening, int w) {
            int worth = evening.worth(this, w, evening.day, evening.ahead);
            return v < 0 ? worth : worth / (v + 1);
        }

        int bids(int x, int[] trail) {
            began(trail, 11);
            return super.bids(x * 3, trail);
        }
    }

    private static class League extends Bidder {
        League(int kind, int number, int v) {
            super(kind, number, v);
        }

        int wish(Course evening, int w) {
            int worth = evening.worth(this, w, evening.day, evening.ahead);
            Bidder other = evening.one(v);
            if (v == number || !(other instanceof League)) {
                return worth;
            }
            return (worth + evening.worth(other, w, evening.day, evening.ahead)) / 2;
        }

        int pays(int x, int[] trail) {
            began(trail, 21);
            return -super.pays(x, trail);
        }
    }

    private static final class Ahead extends Bidder {
        Ahead(int kind, int number, int v) {
            super(kind, number, v);
        }

        int wish(Course evening, int w) {
            int most = evening.worth(this, 0, evening.day + 1, w);
            for (int u = 1; u < WEATHERS; u++) {
                most = Math.max(most, evening.worth(this, u, evening.day + 1, w));
            }
            return evening.worth(this, w, evening.day, evening.ahead) + v * most / 10;
        }

        int tells(int x, int[] trail) {
            began(trail, 31);
            return super.tells(x, trail) ^ 7;
        }
    }

    private static final class Saving extends Low {
        Saving(int kind, int number, int v) {
            super(kind, number, v);
        }

        int wish(Course evening, int w) {
            return evening.purseOf(number) < 10 * v ? 0 : super.wish(evening, w);
        }

        int tells(int x, int[] trail) {
            began(trail, 41);
            int above = super.tells(x - 1, trail);
            return above + bids(2, trail);
        }
    }

    private static final class Sharing extends League {
        Sharing(int kind, int number, int v) {
            super(kind, number, v);
        }

        int wish(Course evening, int w) {
            int own = super.wish(evening, w);
            for (int u = 0; u < WEATHERS; u++) {
                int other = super.wish(evening, u);
                if (other > own || other == own && u < w) {
                    return 0;
                }
            }
            return own;
        }

        int bids(int x, int[] trail) {
            began(trail, 51);
            return super.bids(x, trail) ^ number;
        }
    }

    private static final class Told extends League {
        Told(int kind, int number, int v) {
            super(kind, number, v);
        }

        int wish(Course evening, int w) {
            return evening.rowOf(number, w);
        }

        int pays(int x, int[] trail) {
            began(trail, 61);
            return super.pays(x, trail) + v;
        }
    }
}
