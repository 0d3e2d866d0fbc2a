import java.util.ArrayList;
import java.util.HashSet;
import java.util.List;
import java.util.Random;
import java.util.Set;

/** Random runs of calls, each answer beside that of a slow second reading of the document. */
public final class OracleTests {
    private static final int RUNS = 100;
    private static final int CALLS = 250;
    private static final int MOST_FED = 125;
    // What an object answers behind its 512th call is free.
    private static final int LAST_CALL = 510 - MOST_FED - 1;
    private static final int NONE = -1, BAD = -2, STATE = -3, FULL = -4;
    private static final int FAR_NONE = -10001, FAR_BAD = -10002;
    private static final int[] ABOVE = {-1, 0, 0, 0, 1, 2, 2};

    private static final class One {
        int number, kind, v, purse;
        int[] row = new int[4];

        One copy() {
            One c = new One();
            c.number = number;
            c.kind = kind;
            c.v = v;
            c.purse = purse;
            c.row = row.clone();
            return c;
        }
    }

    private record Evening(int sold, boolean byBids, int[][] bids, int[] pays) {
    }

    /** All that there is, but the image and the trace. */
    private static final class Valleys {
        String tape = "";
        String held = "";
        int valleys, day, ahead, turn;
        List<Integer> fortune = new ArrayList<>(List.of(0, 1, 2, 3));
        List<Integer> beside = new ArrayList<>();
        List<Integer> book = new ArrayList<>();
        List<One> people = new ArrayList<>();

        Valleys copy() {
            Valleys c = new Valleys();
            c.tape = tape;
            c.held = held;
            c.valleys = valleys;
            c.day = day;
            c.ahead = ahead;
            c.turn = turn;
            c.fortune = new ArrayList<>(fortune);
            c.beside = new ArrayList<>(beside);
            c.book = new ArrayList<>(book);
            for (One one : people) {
                c.people.add(one.copy());
            }
            return c;
        }

        int last(String word) {
            int n = 0;
            for (String clause : held.split(";")) {
                if (clause.startsWith(word + " ")) {
                    n = Integer.parseInt(clause.substring(word.length() + 1));
                }
            }
            return n;
        }

        int worth(One one, int w, int onDay, int y) {
            int all = 0;
            for (String clause : held.split(";")) {
                String[] parts = clause.split(" ");
                if (parts.length == 3 && holds(parts[2], new int[] {w, y, onDay % 7, one.number, one.kind})) {
                    all += (parts[0].equals("worth") ? 1 : -1) * Integer.parseInt(parts[1]);
                }
            }
            return all;
        }

        int worth(One one, int w) {
            return worth(one, w, day, ahead);
        }

        int worthAll(int w) {
            int all = 0;
            for (One one : people) {
                all += worth(one, w);
            }
            return all;
        }

        One partner(One one) {
            for (One other : people) {
                if (other.number == one.v && other != one && under(other.kind, 2)) {
                    return other;
                }
            }
            return null;
        }

        int wish(One one, int kind, int w) {
            switch (kind) {
                case 0:
                    return worth(one, w);
                case 1:
                    return worth(one, w) / (one.v + 1);
                case 2:
                    One other = partner(one);
                    return other == null ? worth(one, w) : (worth(one, w) + worth(other, w)) / 2;
                case 3:
                    int most = Integer.MIN_VALUE;
                    for (int u = 0; u < 4; u++) {
                        most = Math.max(most, worth(one, u, day + 1, w));
                    }
                    return worth(one, w) + one.v * most / 10;
                case 4:
                    return one.purse < 10 * one.v ? 0 : wish(one, 1, w);
                case 5:
                    int best = 0;
                    for (int u = 3; u >= 0; u--) {
                        best = wish(one, 2, u) >= wish(one, 2, best) ? u : best;
                    }
                    return w == best ? wish(one, 2, w) : 0;
                default:
                    return one.row[w];
            }
        }

        int held(One one, int wish) {
            return wish < 0 ? 0 : wish > one.purse ? one.purse : wish;
        }

        int[][] bids() {
            int[][] bids = new int[people.size()][4];
            for (One one : people) {
                for (int w = 0; w < 4; w++) {
                    bids[one.number][w] = held(one, wish(one, one.kind, w));
                }
            }
            return bids;
        }

        int fortuneNext() {
            return fortune.isEmpty() ? 0 : fortune.get(turn % fortune.size());
        }

        static int sum(int[][] bids, int w, int without) {
            int sum = 0;
            for (int p = 0; p < bids.length; p++) {
                sum += p == without ? 0 : bids[p][w];
            }
            return sum;
        }

        static int harm(int[][] bids, int sold, int p) {
            int most = 0;
            for (int w = 0; w < 4; w++) {
                most = Math.max(most, sum(bids, w, p));
            }
            return most - sum(bids, sold, p);
        }

        static int share(int[][] bids, int sold) {
            int next = 0;
            int many = 0;
            for (int w = 0; w < 4; w++) {
                next = w == sold ? next : Math.max(next, sum(bids, w, -1));
            }
            for (int[] row : bids) {
                many += row[sold] > 0 ? 1 : 0;
            }
            return (sum(bids, sold, -1) - next) / many;
        }

        Evening evening(int[][] bids) {
            int best = 0;
            for (int w = 3; w >= 0; w--) {
                best = sum(bids, w, -1) >= sum(bids, best, -1) ? w : best;
            }
            int[] pays = new int[bids.length];
            if (sum(bids, best, -1) == 0) {
                return new Evening(fortuneNext(), false, bids, pays);
            }
            int rule = last("rule");
            for (int p = 0; p < pays.length; p++) {
                pays[p] = rule == 0 ? bids[p][best]
                    : rule == 1 ? harm(bids, best, p)
                    : Math.max(0, bids[p][best] - share(bids, best));
            }
            return new Evening(best, true, bids, pays);
        }

        Evening evening() {
            return evening(bids());
        }

        void pass(Evening e) {
            for (One one : people) {
                one.purse = Math.min(999, Math.max(0, one.purse - e.pays[one.number]) + last("gift"));
            }
            if (!e.byBids && !fortune.isEmpty()) {
                turn = (turn + 1) % fortune.size();
            }
            day++;
            ahead = e.sold;
        }

        int gain(Evening e, int p) {
            return worth(people.get(p), e.sold) - e.pays[p];
        }
    }

    private static boolean under(int kind, int k) {
        return kind == k || kind > 0 && under(ABOVE[kind], k);
    }

    /** Where sign stands outside all brackets for the first time; -1. */
    private static int outside(String text, char sign) {
        int open = 0;
        for (int i = 0; i < text.length(); i++) {
            char c = text.charAt(i);
            open += c == '(' ? 1 : c == ')' ? -1 : 0;
            if (c == sign && open == 0) {
                return i;
            }
        }
        return -1;
    }

    private static boolean holds(String e, int[] given) {
        int or = outside(e, '|');
        if (or >= 0) {
            return holds(e.substring(0, or), given) | holds(e.substring(or + 1), given);
        }
        int and = outside(e, '&');
        if (and >= 0) {
            return holds(e.substring(0, and), given) & holds(e.substring(and + 1), given);
        }
        if (e.startsWith("!")) {
            return !holds(e.substring(1), given);
        }
        if (e.startsWith("(")) {
            return holds(e.substring(1, e.length() - 1), given);
        }
        int left = given["wydpk".indexOf(e.charAt(0))];
        int right = Integer.parseInt(e.substring(2));
        return e.charAt(1) == '<' ? left < right : e.charAt(1) == '=' ? left == right : left > right;
    }

    /** What is still to come, how many are open, how many clauses have begun. */
    private record Hope(String rest, int open, int clauses) {
    }

    private static void widen(Hope h, Set<Hope> all) {
        if (h.rest.isEmpty()) {
            all.add(h);
            return;
        }
        String tail = h.rest.substring(1);
        String[] ways;
        switch (h.rest.charAt(0)) {
            case 'R': ways = new String[] {"", ";CR"}; break;
            case 'C': ways = new String[] {"worth N E", "harm N E", "rule Q", "gift N"}; break;
            case 'N': ways = new String[] {"0", "A", "AB"}; break;
            case 'E': ways = new String[] {"T", "T|E"}; break;
            case 'T': ways = new String[] {"F", "F&T"}; break;
            case 'F': ways = new String[] {"!FP", "(E)P", "VON"}; break;
            case 'P':
                widen(new Hope(tail, h.open - 1, h.clauses), all);
                return;
            default:
                all.add(h);
                return;
        }
        for (String way : ways) {
            widen(new Hope(way + tail, h.open, h.clauses), all);
        }
    }

    private static boolean fits(char hoped, char c) {
        switch (hoped) {
            case 'A': return c >= '1' && c <= '9';
            case 'B': return c >= '0' && c <= '9';
            case 'Q': return c >= '0' && c <= '2';
            case 'V': return "wydpk".indexOf(c) >= 0;
            case 'O': return "<=>".indexOf(c) >= 0;
            default: return hoped == c;
        }
    }

    /** -1: the text is a VALLEY. */
    private static int fault(String text) {
        Set<Hope> hopes = new HashSet<>();
        widen(new Hope("CR", 0, 1), hopes);
        for (int i = 0; i < text.length(); i++) {
            char c = text.charAt(i);
            Set<Hope> next = new HashSet<>();
            for (Hope h : hopes) {
                if (h.rest.isEmpty() || !fits(h.rest.charAt(0), c)) {
                    continue;
                }
                int open = h.open + (c == '!' || c == '(' ? 1 : 0);
                int clauses = h.clauses + (c == ';' ? 1 : 0);
                if (open <= 5 && clauses <= 10) {
                    widen(new Hope(h.rest.substring(1), open, clauses), next);
                }
            }
            if (next.isEmpty()) {
                return i;
            }
            hopes = next;
        }
        for (Hope h : hopes) {
            if (h.rest.isEmpty()) {
                return -1;
            }
        }
        return text.length();
    }

    /** A second SoldWeather, as slow as it likes. */
    private static final class Oracle {
        Valleys now = new Valleys();
        Valleys image;
        List<Integer> trace = new ArrayList<>();

        boolean one(int p) {
            return p >= 0 && p < now.people.size();
        }

        boolean weather(int w) {
            return w >= 0 && w <= 3;
        }

        int valley() {
            if (now.valleys == 5) {
                return FULL;
            }
            String text = now.tape;
            now.tape = "";
            int fault = fault(text);
            if (fault >= 0) {
                return -10 - fault;
            }
            now.held = text;
            return now.valleys++;
        }

        int feed(int sign) {
            if (sign < 0 || sign > 127) {
                return BAD;
            }
            if (now.tape.length() == 120) {
                return FULL;
            }
            now.tape += (char) sign;
            return now.tape.length();
        }

        int told(int what) {
            int[] all = {now.last("rule"), now.last("gift"), now.day, now.ahead, now.fortuneNext()};
            return what < 0 || what > 4 ? NONE : all[what];
        }

        int come(List<Integer> row, int weather, int most) {
            if (weather == -1) {
                row.clear();
                return 0;
            }
            if (!weather(weather)) {
                return NONE;
            }
            if (row.size() == most) {
                return FULL;
            }
            row.add(weather);
            return row.size();
        }

        int fortune(int weather) {
            int many = come(now.fortune, weather, 12);
            now.turn = many < 0 ? now.turn : 0;
            return many;
        }

        int person(int kind, int v, int purse) {
            if (kind < 0 || kind > 6) {
                return NONE;
            }
            if (v < 0 || v > 9 || purse < 0 || purse > 999) {
                return BAD;
            }
            if (now.people.size() == 8) {
                return FULL;
            }
            One one = new One();
            one.number = now.people.size();
            one.kind = kind;
            one.v = v;
            one.purse = purse;
            now.people.add(one);
            return one.number;
        }

        int row(int person, int weather, int n) {
            if (!one(person) || !weather(weather)) {
                return NONE;
            }
            if (n < 0 || n > 99) {
                return BAD;
            }
            One one = now.people.get(person);
            if (one.kind != 6) {
                return STATE;
            }
            int before = one.row[weather];
            one.row[weather] = n;
            return before;
        }

        int of(int person, int what) {
            if (!one(person)) {
                return FAR_NONE;
            }
            One one = now.people.get(person);
            switch (what) {
                case 0: return one.kind;
                case 1: return one.v;
                case 2: return one.purse;
                case 10: case 11: case 12: case 13: return now.bids()[person][what - 10];
                case 20: case 21: case 22: case 23: return now.worth(one, what - 20);
                default: return FAR_NONE;
            }
        }

        int go() {
            if (now.day == 99) {
                return STATE;
            }
            now.pass(now.evening());
            return now.ahead;
        }

        int sold(int what) {
            Evening e = now.evening();
            return what == 0 ? e.sold : what == 1 ? Valleys.sum(e.bids, e.sold, -1)
                : one(what - 10) ? e.pays[what - 10] : FAR_NONE;
        }

        int run(int n, int what) {
            if (what != 0 && what != 1 && what != 2 && !one(what - 10)) {
                return FAR_NONE;
            }
            if (n < 0 || n > 40) {
                return FAR_BAD;
            }
            Valleys then = now.copy();
            int last = -5, worth = 0, paid = 0;
            for (int i = 0; i < n; i++) {
                Evening e = then.evening();
                last = e.sold;
                worth += then.worthAll(e.sold);
                for (int pay : e.pays) {
                    paid += pay;
                }
                then.pass(e);
            }
            return what == 0 ? last : what == 1 ? worth : what == 2 ? paid : then.people.get(what - 10).purse;
        }

        int[] bestRow;
        int bestWorth;

        void tryRows(int[] row, int k, int worth, int[][][] table) {
            if (k == row.length) {
                if (worth > bestWorth) {
                    bestWorth = worth;
                    bestRow = row.clone();
                }
                return;
            }
            for (int w = 0; w < 4; w++) {
                row[k] = w;
                tryRows(row, k + 1, worth + table[k][k == 0 ? now.ahead : row[k - 1]][w], table);
            }
        }

        int best(int n, int k) {
            if (n < 1 || n > 8) {
                return FAR_BAD;
            }
            if (k < -1 || k >= n) {
                return FAR_NONE;
            }
            int[][][] table = new int[n][4][4];
            for (int i = 0; i < n; i++) {
                for (int y = 0; y < 4; y++) {
                    for (int w = 0; w < 4; w++) {
                        for (One one : now.people) {
                            table[i][y][w] += now.worth(one, w, now.day + i, y);
                        }
                    }
                }
            }
            bestWorth = Integer.MIN_VALUE;
            tryRows(new int[n], 0, 0, table);
            return k < 0 ? bestWorth : bestRow[k];
        }

        int truly(int person, int what) {
            if (!one(person) || what < 0 || what > 2) {
                return NONE;
            }
            int as = now.gain(now.evening(), person);
            int[] best = {0, -5, -5};
            for (int w = 0; w < 4; w++) {
                for (int b = 0; b <= 40 && b <= now.people.get(person).purse; b++) {
                    int[][] bids = now.bids();
                    bids[person][w] = b;
                    int more = now.gain(now.evening(bids), person) - as;
                    if (more > best[0]) {
                        best = new int[] {more, w, b};
                    }
                }
            }
            return best[what];
        }

        int harm(int person) {
            return one(person) ? Valleys.harm(now.bids(), now.evening().sold, person) : NONE;
        }

        int leagues(int what) {
            if (what != 0 && what != 1) {
                return NONE;
            }
            List<Integer> pairs = new ArrayList<>();
            Evening as = now.evening();
            for (One a : now.people) {
                for (One b : now.people) {
                    if (a.number >= b.number) {
                        continue;
                    }
                    int[][] bids = now.bids();
                    for (int w = 0; w < 4; w++) {
                        int half = (now.worth(a, w) + now.worth(b, w)) / 2;
                        bids[a.number][w] = now.held(a, half);
                        bids[b.number][w] = now.held(b, half);
                    }
                    Evening e = now.evening(bids);
                    if (now.gain(e, a.number) + now.gain(e, b.number)
                        > now.gain(as, a.number) + now.gain(as, b.number)) {
                        pairs.add(10 * a.number + b.number);
                    }
                }
            }
            return what == 0 ? pairs.size() : pairs.isEmpty() ? -5 : pairs.get(0);
        }

        int spill(int m, int n) {
            if (m < 1 || m > 40 || n < 0 || n > 99) {
                return FAR_BAD;
            }
            int all = run(m, 1);
            for (int i = 0; i < m && i < now.beside.size(); i++) {
                all += run(i + 1, 0) == now.beside.get(i) ? n * now.people.size() : 0;
            }
            return all;
        }

        int poor(int n, int what) {
            if (what != 0 && what != 1) {
                return NONE;
            }
            if (n < 1 || n > 40) {
                return BAD;
            }
            int bits = 0;
            int least = Integer.MAX_VALUE, most = Integer.MIN_VALUE;
            for (int p = 0; p < now.people.size(); p++) {
                Valleys then = now.copy();
                boolean glad = false;
                int all = 0;
                for (int i = 0; i < n; i++) {
                    Evening e = then.evening();
                    int worth = then.worth(then.people.get(p), e.sold);
                    glad |= worth > 0;
                    all += worth;
                    then.pass(e);
                }
                bits += glad ? 0 : 1 << p;
                least = Math.min(least, all);
                most = Math.max(most, all);
            }
            return what == 0 ? bits : now.people.isEmpty() ? 0 : most - least;
        }

        long worse(int n) {
            if (n < 1 || n > 40) {
                return BAD;
            }
            long bits = 0;
            Valleys then = now.copy();
            for (int i = 0; i < n; i++) {
                Evening e = then.evening();
                bits += then.worthAll(e.sold) < then.worthAll(then.fortuneNext()) ? 1L << i : 0;
                then.pass(e);
            }
            return bits;
        }

        int looked() {
            for (int i = 0; i < now.book.size(); i++) {
                if (run(i + 1, 0) != now.book.get(i)) {
                    return i;
                }
            }
            return -5;
        }

        /** Does body of act that a KIND, or the next one above that has one, brings. */
        int does(One one, int kind, int act, int x) {
            trace.add(0);
            int place = trace.size() - 1;
            int body = 0;
            for (int k = kind; body == 0; k = ABOVE[k]) {
                body = new int[][] {{1, 2, 3}, {11, 0, 0}, {0, 21, 0}, {0, 0, 31}, {0, 0, 41}, {51, 0, 0}, {0, 61, 0}}[k][act];
            }
            trace.set(place, body);
            switch (body) {
                case 1: return x + one.number;
                case 2: return does(one, one.kind, 0, x) - one.v;
                case 3: return does(one, one.kind, 1, x) * 2;
                case 11: return does(one, 0, 0, x * 3);
                case 21: return -does(one, 0, 1, x);
                case 31: return does(one, 0, 2, x) ^ 7;
                case 41: return does(one, 1, 2, x - 1) + does(one, one.kind, 0, 2);
                case 51: return does(one, 2, 0, x) ^ one.number;
                default: return does(one, 2, 1, x) + one.v;
            }
        }

        int act(int person, int act, int x) {
            trace.clear();
            return one(person) && act >= 0 && act <= 2 ? does(now.people.get(person), now.people.get(person).kind, act, x) : 0;
        }

        int trace(int i) {
            return i >= 0 && i < trace.size() && i < 20 ? trace.get(i) : NONE;
        }

        int as(int person, int k) {
            if (!one(person) || k < 0 || k > 6) {
                return NONE;
            }
            return under(now.people.get(person).kind, k) ? now.people.get(person).v : -6;
        }

        int image() {
            image = now.copy();
            return now.people.size();
        }

        int undo() {
            if (image == null) {
                return STATE;
            }
            now = image.copy();
            return now.people.size();
        }

        int count(int what) {
            int[] all = {now.people.size(), now.valleys, now.fortune.size(), now.beside.size(), now.book.size(),
                now.tape.length(), trace.size()};
            return what < 0 || what > 6 ? NONE : all[what];
        }
    }

    private static int wrong = 0;
    private static int run = 0;

    private int calls = 0;

    private void same(String call, long got, long want) {
        calls++;
        if (got != want && wrong++ < 20) {
            System.out.println("run " + run + ": " + call + " answered " + got + ", due is " + want);
        }
    }

    private final Random random;
    private final SoldWeather x = new SoldWeather();
    private final Oracle o = new Oracle();

    private OracleTests(long seed) {
        random = new Random(seed);
    }

    /** Mostly from..to, at times one beside that, at times anything. */
    private int about(int from, int to) {
        int dice = random.nextInt(60);
        if (dice == 0) {
            return random.nextInt();
        }
        if (dice == 1) {
            return from - 1;
        }
        return dice == 2 ? to + 1 : from + random.nextInt(to - from + 1);
    }

    private String number() {
        return "" + random.nextInt(random.nextBoolean() ? 10 : 100);
    }

    private String expression(int deep) {
        int dice = random.nextInt(deep > 4 ? 4 : 9);
        switch (dice) {
            case 4: return "!" + (random.nextBoolean() ? expression(9) : "(" + expression(deep + 2) + ")");
            case 5: return "(" + expression(deep + 1) + ")";
            case 6: case 7: return expression(deep + 1) + "&" + expression(deep + 1);
            case 8: return expression(deep + 1) + "|" + expression(deep + 1);
            default:
                int asked = random.nextInt(5);
                int most = new int[] {4, 4, 7, 8, 7}[asked];
                return "" + "wydpk".charAt(asked) + "<=>".charAt(random.nextInt(3)) + random.nextInt(most);
        }
    }

    private String text() {
        StringBuilder all = new StringBuilder();
        int clauses = random.nextInt(40) == 0 ? 12 : 1 + random.nextInt(6);
        for (int i = 0; i < clauses; i++) {
            all.append(i == 0 ? "" : ";");
            int dice = clauses > 9 ? 8 : random.nextInt(9);
            all.append(dice < 4 ? "worth " + number() + " " + expression(0)
                : dice < 6 ? "harm " + number() + " " + expression(0)
                : dice < 8 ? "rule " + random.nextInt(3) : "gift " + number());
        }
        if (random.nextInt(4) == 0 && all.length() > 0) {
            int place = random.nextInt(all.length());
            String other = "" + " ;!()&|<=>0123456789wydpkorthamruleg".charAt(random.nextInt(36));
            int kind = random.nextInt(3);
            all.replace(place, kind == 0 ? place : place + 1, kind == 1 ? "" : other);
        }
        return all.toString();
    }

    private void feedText() {
        String text = text();
        for (int i = 0; i < text.length() && i < MOST_FED; i++) {
            same("feed", x.feed(text.charAt(i)), o.feed(text.charAt(i)));
        }
        String tape = o.now.tape;
        same("valley() of '" + tape + "'", x.valley(), o.valley());
    }

    private void people() {
        for (int i = random.nextInt(9); i > 0; i--) {
            int kind = about(0, 6), v = about(0, 9), purse = about(0, random.nextBoolean() ? 999 : 60);
            same("person", x.person(kind, v, purse), o.person(kind, v, purse));
        }
    }

    private void call() {
        int p = about(0, 7), q = about(0, 12), w = about(0, 3), n = about(0, 99), z = random.nextInt();
        String args = "(p " + p + ", q " + q + ", w " + w + ", n " + n + ")";
        switch (random.nextInt(27)) {
            case 0: same("feed" + args, x.feed(n), o.feed(n)); break;
            case 1: if (random.nextInt(4) == 0) feedText(); break;
            case 2: same("told" + args, x.told(q - 4), o.told(q - 4)); break;
            case 3: w = random.nextInt(12) == 0 ? -1 : w; same("fortune" + args, x.fortune(w), o.fortune(w)); break;
            case 4: if (random.nextInt(4) == 0) people(); break;
            case 5: same("row" + args, x.row(p, w, n), o.row(p, w, n)); break;
            case 6: z = about(0, 24); same("of(" + p + ", " + z + ")", x.of(p, z), o.of(p, z)); break;
            case 7: same("go", x.go(), o.go()); break;
            case 8: z = about(-1, 18); same("sold(" + z + ")", x.sold(z), o.sold(z)); break;
            case 9: z = about(-1, 18); n = about(0, 40); same("run(" + n + ", " + z + ")", x.run(n, z), o.run(n, z)); break;
            case 10: n = about(1, 6); q = about(-1, 8); same("best(" + n + ", " + q + ")", x.best(n, q), o.best(n, q)); break;
            case 11: q = about(0, 2); same("truly(" + p + ", " + q + ")", x.truly(p, q), o.truly(p, q)); break;
            case 12: same("harm" + args, x.harm(p), o.harm(p)); break;
            case 13: q = about(0, 1); same("leagues(" + q + ")", x.leagues(q), o.leagues(q)); break;
            case 14: w = random.nextInt(30) == 0 ? -1 : w; same("beside" + args, x.beside(w), o.come(o.now.beside, w, 20)); break;
            case 15: q = about(1, 40); same("spill(" + q + ", " + n + ")", x.spill(q, n), o.spill(q, n)); break;
            case 16: n = about(1, 40); q = about(0, 1); same("poor(" + n + ", " + q + ")", x.poor(n, q), o.poor(n, q)); break;
            case 17: n = about(1, 40); same("worse(" + n + ")", x.worse(n), o.worse(n)); break;
            case 18: booked(w, args); break;
            case 19: same("looked", x.looked(), o.looked()); break;
            case 20: case 21: q = about(0, 2); same("act(" + p + ", " + q + ", " + z + ")", x.act(p, q, z), o.act(p, q, z)); break;
            case 22: same("trace" + args, x.trace(p), o.trace(p)); break;
            case 23: q = about(0, 6); same("as(" + p + ", " + q + ")", x.as(p, q), o.as(p, q)); break;
            case 24: same("image", x.image(), o.image()); break;
            case 25: if (random.nextInt(3) == 0) same("undo", x.undo(), o.undo()); break;
            default: same("count" + args, x.count(p), o.count(p)); break;
        }
    }

    /** Often tells what will be SOLD indeed, so that looked() looks far. */
    private void booked(int w, String args) {
        int weather = random.nextInt(20) == 0 ? -1 : w;
        if (random.nextInt(3) > 0 && o.now.book.size() < 12) {
            weather = o.run(o.now.book.size() + 1, 0);
        }
        same("book" + args, x.book(weather), o.come(o.now.book, weather, 12));
    }

    private void compare() {
        if (random.nextInt(8) > 0) {
            feedText();
            people();
        }
        for (int i = 0; i < CALLS && calls < LAST_CALL; i++) {
            call();
        }
        for (int n = run % 20 == 0 ? 8 : 0; n > 0; n -= 8) {
            same("best(8, 7)", x.best(n, 7), o.best(n, 7));
            same("best(8, -1)", x.best(n, -1), o.best(n, -1));
        }
    }

    public static void main(String[] args) {
        for (run = 0; run < RUNS; run++) {
            new OracleTests(20261118L + run).compare();
        }
        System.out.println(wrong == 0 ? "all answers are as due" : wrong + " answers are not as due");
        if (wrong != 0) {
            System.exit(1);
        }
    }
}
