/** One method or more for each promise; every due answer is worked out by hand from the document. */
public final class PromiseTests {
    private static final int NONE = -1, BAD = -2, STATE = -3, FULL = -4;
    private static final int FAR_NONE = -10001, FAR_BAD = -10002;
    private static final int[] ODD = {Integer.MIN_VALUE, Integer.MIN_VALUE + 9, -2, 4, 5, 100, Integer.MAX_VALUE};

    private static int wrong = 0;
    private static String promise = "";

    private static void due(String call, long got, long want) {
        if (got != want) {
            wrong++;
            System.out.println(promise + ": " + call + " answered " + got + ", due is " + want);
        }
    }

    private static void feed(SoldWeather x, String text) {
        for (int i = 0; i < text.length(); i++) {
            x.feed(text.charAt(i));
        }
    }

    private static int read(SoldWeather x, String text) {
        feed(x, text);
        return x.valley();
    }

    private static SoldWeather in(String valley) {
        SoldWeather x = new SoldWeather();
        due("valley " + valley, read(x, valley), 0);
        return x;
    }

    /** Two who bid 30 for WEATHER 1 and 20 for WEATHER 2. */
    private static SoldWeather twoBidders(int rule) {
        SoldWeather x = in("worth 30 w=1&p=0;worth 20 w=2&p=1;rule " + rule);
        x.person(0, 0, 100);
        x.person(0, 0, 100);
        return x;
    }

    /** One who bids 10 for WEATHER 1 as long as the purse of 15 lasts, and one whom that harms by 20. */
    private static SoldWeather oneHarmed() {
        SoldWeather x = in("worth 10 w=1&p=0;harm 20 w=1&p=1");
        x.person(0, 0, 15);
        x.person(0, 0, 99);
        return x;
    }

    private static void newObject() {
        promise = "1 new";
        SoldWeather x = new SoldWeather();
        for (int what = 0; what <= 6; what++) {
            due("count(" + what + ")", x.count(what), what == 2 ? 4 : 0);
        }
        for (int what = 0; what <= 4; what++) {
            due("told(" + what + ")", x.told(what), 0);
        }
        due("of", x.of(0, 0), FAR_NONE);
        due("undo", x.undo(), STATE);
        due("sold(0)", x.sold(0), 0);
        due("sold(1)", x.sold(1), 0);
        due("sold(10)", x.sold(10), FAR_NONE);
        due("looked", x.looked(), -5);
        due("leagues(0)", x.leagues(0), 0);
        due("leagues(1)", x.leagues(1), -5);
        due("poor", x.poor(1, 0), 0);
        due("even", x.poor(1, 1), 0);
    }

    private static void feed() {
        promise = "2 feed";
        SoldWeather x = new SoldWeather();
        due("feed(-1)", x.feed(-1), BAD);
        due("feed(128)", x.feed(128), BAD);
        due("feed(MIN)", x.feed(Integer.MIN_VALUE), BAD);
        for (int i = 1; i <= 120; i++) {
            due("feed " + i, x.feed(i == 1 ? 0 : 127), i);
        }
        due("feed, full", x.feed(1), FULL);
        due("feed, full and bad", x.feed(128), BAD);
        due("count(5)", x.count(5), 120);
    }

    private static void fault(String text, int place) {
        SoldWeather x = new SoldWeather();
        due("fault of '" + text + "'", read(x, text), -10 - place);
        due("tape behind '" + text + "'", x.count(5), 0);
        due("valleys behind '" + text + "'", x.count(1), 0);
    }

    private static void faults() {
        promise = "3 valley, faults";
        fault("", 0);
        fault("x", 0);
        fault(";", 0);
        fault(" rule 1", 0);
        fault("worths", 5);
        fault("rul", 3);
        fault("rule", 4);
        fault("rule  1", 5);
        fault("rule 3", 5);
        fault("rule 00", 6);
        fault("rule 1 ", 6);
        fault("rule 1;", 7);
        fault("rule 1;;", 7);
        fault("gift ", 5);
        fault("gift 00", 6);
        fault("gift 100", 7);
        fault("gift -1", 5);
        fault("worth 5", 7);
        fault("worth 5 ", 8);
        fault("worth 5;rule 1", 7);
        fault("worth 05 w=1", 7);
        fault("worth 123 w=1", 8);
        fault("worth 5  w=1", 8);
        fault("worth 5 w", 9);
        fault("worth 5 w!1", 9);
        fault("worth 5 w=", 10);
        fault("worth 5 w=y", 10);
        fault("worth 5 w=01", 11);
        fault("worth 5 w=123", 12);
        fault("worth 5 w=1&", 12);
        fault("worth 5 w=1|", 12);
        fault("worth 5 w=1&&w=1", 12);
        fault("worth 5 w=1)", 11);
        fault("worth 5 (w=1", 12);
        fault("worth 5 (w=1;rule 1", 12);
        fault("worth 5 ()", 9);
        fault("worth 5 !", 9);
        fault("worth 5 x=1", 8);
        fault("harm 5 w=1 &w=1", 10);
        fault("harm 5 ((((((w=1))))))", 12);
        fault("harm 5 !(!(!(w=1)))", 12);
        fault("harm 5 !!!!!!w=1", 12);
        fault("harm 5 (((((w=1)))))&((((((w=1))))))", 26);
        fault("gift 1;gift 1;gift 1;gift 1;gift 1;gift 1;gift 1;gift 1;gift 1;gift 1;gift 1", 69);
        fault("gift 1;gift 1;gift 1;gift 1;gift 1;gift 1;gift 1;gift 1;gift 1;gift 1;", 69);
    }

    private static void valleys() {
        promise = "3 valley";
        due("5 open", read(new SoldWeather(), "worth 5 (((((w=1)))))"), 0);
        due("5 open, again", read(new SoldWeather(), "worth 5 !!!!!w=1&!!!!!w=1|!(!(!w=1))"), 0);
        due("10 clauses", read(new SoldWeather(),
            "gift 1;gift 1;gift 1;gift 1;gift 1;gift 1;gift 1;gift 1;gift 1;rule 2"), 0);
        SoldWeather ten = in("worth 1 w=1" + ";worth 1 w=1".repeat(9));
        ten.person(0, 0, 0);
        due("10 of worth", ten.of(0, 21), 10);
        SoldWeather wide = in("worth 1 !w=0" + "&w=1".repeat(27));
        due("120 signs", wide.person(0, 0, 0), 0);
        due("120 signs hold", wide.of(0, 21), 1);
        due("120 signs do not hold", wide.of(0, 20), 0);
        fault("worth 1 w=1" + "&w=1".repeat(27) + "|", 120);
        SoldWeather x = new SoldWeather();
        for (int i = 0; i < 5; i++) {
            due("valley " + i, read(x, "gift 1" + i), i);
            due("gift " + i, x.told(1), 10 + i);
        }
        feed(x, "gift 77");
        due("full", x.valley(), FULL);
        due("the tape stays", x.count(5), 7);
        due("the fifth holds", x.told(1), 14);
        due("count(1)", x.count(1), 5);

        SoldWeather y = in("gift 9;rule 1");
        due("fault", read(y, "gift 8;rule 7"), -10 - 12);
        due("the one that held holds: gift", y.told(1), 9);
        due("the one that held holds: rule", y.told(0), 1);
        due("next", read(y, "worth 1 w=0"), 1);
        due("gift of the newest", y.told(1), 0);
        due("rule of the newest", y.told(0), 0);
    }

    private static void worthIs(String clauses, int person, int weather, int want) {
        SoldWeather x = in(clauses);
        x.person(0, 0, 9);
        x.person(4, 0, 9);
        due("worth of " + weather + " to " + person + " by " + clauses, x.of(person, 20 + weather), want);
    }

    private static void worth() {
        promise = "3 worth";
        worthIs("worth 5 w=1", 0, 1, 5);
        worthIs("worth 5 w=1", 0, 0, 0);
        worthIs("worth 5 w<1;harm 99 w>2", 0, 0, 5);
        worthIs("worth 5 w<1;harm 99 w>2", 0, 3, -99);
        worthIs("worth 5 w<1;harm 99 w>2", 0, 1, 0);
        worthIs("worth 5 p=1;worth 7 k=4;harm 3 w=2", 1, 2, 9);
        worthIs("worth 5 p=1;worth 7 k=4;harm 3 w=2", 0, 2, -3);
        worthIs("worth 1 y=0&d=0", 0, 3, 1);
        worthIs("worth 1 y>0|d>0", 0, 3, 0);
        worthIs("worth 1 w=0|w=1&p=1", 0, 0, 1);
        worthIs("worth 1 w=0|w=1&p=1", 0, 1, 0);
        worthIs("worth 1 (w=0|w=1)&p=1", 0, 0, 0);
        worthIs("worth 1 w=1&p=1|w=0", 0, 0, 1);
        worthIs("worth 1 !w=0|w=0", 0, 0, 1);
        worthIs("worth 1 !(w=0|w=1)", 0, 1, 0);
        worthIs("worth 1 !w=1&w=0", 0, 0, 1);
        worthIs("worth 1 !!w=1", 0, 1, 1);
        worthIs("worth 1 w<99", 0, 3, 1);
    }

    private static void told() {
        promise = "4 told";
        SoldWeather x = in("rule 2;gift 44;gift 7;rule 1");
        x.go();
        x.go();
        x.go();
        due("rule, the last", x.told(0), 1);
        due("gift, the last", x.told(1), 7);
        due("day", x.told(2), 3);
        due("ahead", x.told(3), 2);
        due("fortune's next", x.told(4), 3);
        due("told(-1)", x.told(-1), NONE);
        due("told(5)", x.told(5), NONE);
    }

    private static void fortune() {
        promise = "5 fortune";
        SoldWeather x = new SoldWeather();
        x.go();
        due("refused", x.fortune(4), NONE);
        due("refused, below", x.fortune(-2), NONE);
        due("the turn stays", x.told(4), 1);
        for (int i = 5; i <= 12; i++) {
            due("fortune " + i, x.fortune(3), i);
        }
        due("the turn begins anew", x.told(4), 0);
        x.go();
        due("full", x.fortune(3), FULL);
        due("full and none", x.fortune(7), NONE);
        due("the turn stays if full", x.told(4), 1);
        due("emptied", x.fortune(-1), 0);
        due("next without any", x.told(4), 0);
        due("go without any", x.go(), 0);
        due("first", x.fortune(2), 1);
        due("second", x.fortune(1), 2);
        due("go", x.go(), 2);
        due("go", x.go(), 1);
        due("again from its beginning", x.go(), 2);
        due("count(2)", x.count(2), 2);
    }

    private static void person() {
        promise = "6 person";
        SoldWeather x = new SoldWeather();
        due("kind 7", x.person(7, 0, 0), NONE);
        due("kind -1", x.person(-1, 10, 1000), NONE);
        due("v 10", x.person(0, 10, 0), BAD);
        due("v -1", x.person(0, -1, 0), BAD);
        due("purse 1000", x.person(0, 0, 1000), BAD);
        due("purse -1", x.person(0, 0, -1), BAD);
        for (int i = 0; i < 8; i++) {
            due("person " + i, x.person(i % 7, 9 - i, 999 * (i % 2)), i);
            due("kind", x.of(i, 0), i % 7);
            due("v", x.of(i, 1), 9 - i);
            due("purse", x.of(i, 2), 999 * (i % 2));
        }
        due("full", x.person(0, 0, 0), FULL);
        due("full and bad", x.person(0, 10, 0), BAD);
        due("full and none", x.person(9, 10, 0), NONE);
        due("count(0)", x.count(0), 8);
    }

    private static void row() {
        promise = "7 row";
        SoldWeather x = new SoldWeather();
        x.person(6, 0, 50);
        x.person(2, 0, 50);
        due("none told", x.of(0, 13), 0);
        due("row", x.row(0, 3, 99), 0);
        due("bid up to the purse", x.of(0, 13), 50);
        due("row again", x.row(0, 3, 12), 99);
        due("bid", x.of(0, 13), 12);
        due("other weather", x.row(0, 2, 1), 0);
        due("no such one", x.row(2, 0, 100), NONE);
        due("no such one", x.row(-1, 0, 0), NONE);
        due("no such weather", x.row(0, 4, 100), NONE);
        due("no such weather", x.row(0, -1, 0), NONE);
        due("n 100", x.row(0, 0, 100), BAD);
        due("n -1", x.row(0, 0, -1), BAD);
        due("n first, then state", x.row(1, 0, 100), BAD);
        due("it has none", x.row(1, 0, 9), STATE);
        due("unchanged", x.row(0, 3, 0), 12);
    }

    private static void bidIs(SoldWeather x, int person, int... bids) {
        for (int w = 0; w < bids.length; w++) {
            due("bid of " + person + " for " + w, x.of(person, 10 + w), bids[w]);
        }
    }

    private static void bidsOfKinds() {
        promise = "8 bids";
        SoldWeather x = in("worth 21 w=0;worth 35 w=2&p<2;harm 9 w=1;worth 4 w=1&y=1;worth 7 p=3&w=0;gift 1");
        x.person(0, 0, 30);
        x.person(1, 1, 999);
        x.person(2, 3, 999);
        x.person(2, 2, 9);
        x.person(3, 5, 999);
        x.person(4, 6, 59);
        x.person(5, 6, 999);
        x.person(6, 0, 80);
        bidIs(x, 0, 21, 0, 30, 0);
        bidIs(x, 1, 10, 0, 17, 0);
        // 21 and 28 together by 2.
        bidIs(x, 2, 24, 0, 0, 0);
        bidIs(x, 3, 9, 0, 0, 0);
        // v 5 times 21 by 10, cut, is 10 more for each one.
        bidIs(x, 4, 31, 1, 10, 10);
        bidIs(x, 5, 0, 0, 0, 0);
        bidIs(x, 6, 21, 0, 0, 0);
        bidIs(x, 7, 0, 0, 0, 0);
        due("worth below 0", x.of(0, 21), -9);
        x.go();
        // The PURSE of SAVING is 60 now.
        bidIs(x, 5, 3, 0, 0, 0);
    }

    private static void leagueBids() {
        promise = "8 bids of leagues";
        SoldWeather x = in("worth 10 p=0;worth 21 p=1;harm 99 p=2;worth 50 p=3&w>1;worth 50 p=4");
        x.person(2, 0, 999);
        bidIs(x, 0, 10, 10, 10, 10);
        x.person(2, 3, 999);
        due("nobody of that number", x.of(1, 10), 21);
        x.person(2, 0, 999);
        due("with one who is harmed", x.of(2, 10), 0);
        x.person(6, 0, 999);
        bidIs(x, 1, 10, 10, 35, 35);
        x.person(0, 0, 999);
        x.person(5, 1, 999);
        bidIs(x, 5, 10, 0, 0, 0);
        SoldWeather y = in("worth 9 p=0;worth 20 p=1&w=3;worth 60 p=2");
        y.person(5, 1, 999);
        y.person(5, 2, 999);
        y.person(3, 0, 999);
        bidIs(y, 0, 0, 0, 0, 14);
        bidIs(y, 1, 0, 0, 0, 20);
        // SHARING looks for the most ahead of what the PURSE allows.
        SoldWeather z = in("worth 20 w=0;worth 30 w=2");
        z.person(5, 0, 10);
        bidIs(z, 0, 0, 0, 10, 0);
    }

    private static void aheadBids() {
        promise = "8 bids ahead";
        SoldWeather x = in("worth 33 d=1&y=2;harm 55 d=1&!y=2;worth 20 d=0");
        x.person(3, 9, 999);
        // 9 * 33 by 10 is 29; 9 * -55 by 10 is -49.
        bidIs(x, 0, 0, 0, 49, 0);
        x.go();
        due("worth on day 1 behind 2", x.of(0, 20), 33);
        bidIs(x, 0, 33, 33, 33, 33);
    }

    private static void of() {
        promise = "8 of";
        SoldWeather x = new SoldWeather();
        x.person(3, 8, 7);
        due("kind", x.of(0, 0), 3);
        due("v", x.of(0, 1), 8);
        due("purse", x.of(0, 2), 7);
        due("no such one", x.of(1, 0), FAR_NONE);
        due("no such one", x.of(-1, 0), FAR_NONE);
        for (int what : new int[] {-1, 3, 9, 14, 19, 24, Integer.MIN_VALUE, Integer.MAX_VALUE}) {
            due("of(0, " + what + ")", x.of(0, what), FAR_NONE);
        }
    }

    private static void go() {
        promise = "9 go";
        SoldWeather x = twoBidders(0);
        due("sold", x.go(), 1);
        due("purse 0", x.of(0, 2), 70);
        due("purse 1", x.of(1, 2), 100);
        due("day", x.told(2), 1);
        due("ahead", x.told(3), 1);
        due("fortune's turn is not over", x.told(4), 0);
        for (int i = 1; i < 99; i++) {
            x.go();
        }
        due("day 99", x.told(2), 99);
        due("refused", x.go(), STATE);
        due("day 99 still", x.told(2), 99);
        due("run goes beyond", x.run(1, 0), x.sold(0));
        // 99 modulo 7 is 1.
        SoldWeather late = in("worth 1 d=2&p=0");
        for (int i = 0; i < 99; i++) {
            late.go();
        }
        late.person(0, 0, 9);
        due("day 99", late.of(0, 20), 0);
        due("days 100 and 107", late.run(9, 2), 2);

        SoldWeather y = in("gift 99");
        y.person(0, 0, 950);
        due("nobody bids", y.go(), 0);
        due("gift, 999 at most", y.of(0, 2), 999);
        due("fortune", y.go(), 1);
        due("fortune", y.go(), 2);
        due("fortune", y.go(), 3);
        due("fortune again", y.go(), 0);
    }

    private static void sold() {
        promise = "10 sold";
        for (int rule = 0; rule <= 2; rule++) {
            SoldWeather x = twoBidders(rule);
            due("sold", x.sold(0), 1);
            due("all bids", x.sold(1), 30);
            due("rule " + rule + ", 0 pays", x.sold(10), rule == 0 ? 30 : 20);
            due("rule " + rule + ", 1 pays", x.sold(11), 0);
            due("nothing changed", x.told(2), 0);
        }
        SoldWeather y = in("worth 30 w=1&p=0;worth 15 w=1&p=1;worth 20 w=2&p=2;rule 2");
        y.person(0, 0, 99);
        y.person(0, 0, 99);
        y.person(0, 0, 99);
        due("30 less 25 by 2", y.sold(10), 18);
        due("15 less 25 by 2", y.sold(11), 3);
        due("0 at least", y.sold(12), 0);
        due("what 13", y.sold(13), FAR_NONE);
        due("what 2", y.sold(2), FAR_NONE);
        due("what -1", y.sold(-1), FAR_NONE);
        SoldWeather z = in("worth 5 w>1");
        z.person(0, 0, 9);
        due("of several the least", z.sold(0), 2);
    }

    private static void run() {
        promise = "11 run";
        SoldWeather x = in("worth 30 w=1&p=0;worth 20 w=2&p=1;harm 4 w=1&p=1;gift 5");
        x.person(0, 0, 40);
        x.person(0, 0, 20);
        // Evenings: 30 for 1, purses 15 and 25; 20 for 2, purses 20 and 10; 20 for 1, purses 5 and 15.
        due("sold", x.run(3, 0), 1);
        due("sold", x.run(2, 0), 2);
        due("worth", x.run(3, 1), 26 + 20 + 26);
        due("paid", x.run(3, 2), 70);
        due("purse 0", x.run(3, 10), 5);
        due("purse 1", x.run(3, 11), 15);
        due("no day", x.run(0, 0), -5);
        due("no day, worth", x.run(0, 1), 0);
        due("no day, paid", x.run(0, 2), 0);
        due("no day, purse", x.run(0, 10), 40);
        due("purse as it was", x.of(0, 2), 40);
        due("n 40", x.run(40, 0) >= 0 ? 1 : 0, 1);
        due("n 41", x.run(41, 0), FAR_BAD);
        due("n -1", x.run(-1, 10), FAR_BAD);
        due("what first", x.run(41, 12), FAR_NONE);
        due("what 3", x.run(1, 3), FAR_NONE);
        due("what -1", x.run(1, -1), FAR_NONE);
        SoldWeather y = new SoldWeather();
        y.go();
        due("fortune goes on", y.run(4, 0), 0);
        due("fortune's turn stays", y.told(4), 1);
    }

    private static void best() {
        promise = "12 best";
        SoldWeather x = in("worth 9 w=0&y=0;harm 5 w=0&y>0;worth 40 w=3&y=2&d=2;harm 3 w=2&p=1");
        x.person(0, 0, 0);
        x.person(1, 0, 0);
        // 18 and 18 and 18 are less than 18, -3 and 80.
        due("1 day", x.best(1, -1), 18);
        due("3 days", x.best(3, -1), 95);
        due("day 0", x.best(3, 0), 0);
        due("day 1", x.best(3, 1), 2);
        due("day 2", x.best(3, 2), 3);
        due("2 days", x.best(2, -1), 36);
        due("first of several: behind 3 nothing is more than 0", x.best(4, 3), 1);
        due("n 8: back to 0 for 10, then 18 on 4 days", x.best(8, -1), 95 - 10 + 72);
        due("n 0", x.best(0, 0), FAR_BAD);
        due("n 9", x.best(9, 9), FAR_BAD);
        due("k n", x.best(3, 3), FAR_NONE);
        due("k -2", x.best(3, -2), FAR_NONE);
        SoldWeather y = in("harm 7 w<99");
        y.person(0, 0, 0);
        due("all below 0", y.best(8, -1), -56);
        due("first as a row", y.best(8, 7), 0);
    }

    private static void truly() {
        promise = "13 truly";
        SoldWeather x = twoBidders(0);
        due("gain", x.truly(0, 0), 10);
        due("weather", x.truly(0, 1), 1);
        due("bid", x.truly(0, 2), 20);
        due("no gain", x.truly(1, 0), 0);
        due("no gain, weather", x.truly(1, 1), -5);
        due("no gain, bid", x.truly(1, 2), -5);
        due("no such one", x.truly(2, 0), NONE);
        due("no such one", x.truly(-1, 0), NONE);
        due("what 3", x.truly(0, 3), NONE);
        due("what -1", x.truly(0, -1), NONE);
        due("harm is paid: no gain", twoBidders(1).truly(0, 0), 0);

        SoldWeather y = in("worth 90 w=3&p=0;worth 41 w=1&p=1");
        y.person(6, 0, 39);
        y.person(0, 0, 99);
        due("purse at most", y.truly(0, 0), 0);
        SoldWeather z = in("worth 90 w=3&p=0;worth 40 w=1&p=1");
        z.person(6, 0, 41);
        z.person(0, 0, 99);
        due("40 does not buy behind a lesser weather", z.truly(0, 0), 0);
        SoldWeather a = in("worth 90 w=1&p=0;worth 40 w=3&p=1");
        a.person(6, 0, 41);
        a.person(0, 0, 99);
        due("40 buys the lesser weather", a.truly(0, 0), 50);
        due("40 buys", a.truly(0, 2), 40);
        // Its own bid of 3 for 2 brings fortune's 0 instead, when it is 0.
        SoldWeather b = in("worth 3 w=2;worth 50 w=0&k=6");
        b.person(6, 0, 99);
        b.row(0, 2, 3);
        due("0 for weather 0 first, or fortune", b.truly(0, 0), 50);
        due("weather", b.truly(0, 1), 2);
        due("bid", b.truly(0, 2), 0);
    }

    private static void harm() {
        promise = "14 harm";
        for (int rule = 0; rule <= 2; rule++) {
            SoldWeather x = twoBidders(rule);
            due("harm of 0", x.harm(0), 20);
            due("harm of 1", x.harm(1), 0);
            due("no such one", x.harm(2), NONE);
            due("no such one", x.harm(-1), NONE);
        }
        SoldWeather y = new SoldWeather();
        y.person(0, 0, 5);
        due("no bids", y.harm(0), 0);
    }

    private static void leagues() {
        promise = "15 leagues";
        due("paying bids: none", twoBidders(0).leagues(0), 0);
        due("paying bids: first", twoBidders(0).leagues(1), -5);
        SoldWeather x = twoBidders(1);
        due("paying harm: one", x.leagues(0), 1);
        due("paying harm: 0 and 1", x.leagues(1), 1);
        due("what 2", x.leagues(2), NONE);
        due("what -1", x.leagues(-1), NONE);
        // Whoever bids half with 2 is rid of what its told row makes it pay.
        SoldWeather y = new SoldWeather();
        y.person(0, 0, 9);
        y.person(0, 0, 9);
        y.person(6, 0, 9);
        y.row(2, 3, 8);
        y.person(0, 0, 9);
        due("three pairs", y.leagues(0), 3);
        due("the first", y.leagues(1), 2);
        due("bids as they were", y.sold(1), 8);
    }

    private static void beside() {
        promise = "16 beside";
        SoldWeather x = new SoldWeather();
        due("none", x.beside(4), NONE);
        due("none", x.beside(-2), NONE);
        for (int i = 1; i <= 20; i++) {
            due("beside " + i, x.beside(i % 4), i);
        }
        due("full", x.beside(0), FULL);
        due("full and none", x.beside(4), NONE);
        due("count(3)", x.count(3), 20);
        due("emptied", x.beside(-1), 0);
        due("count(3)", x.count(3), 0);
        due("first", x.beside(3), 1);
    }

    private static void spill() {
        promise = "17 spill";
        SoldWeather x = in("worth 2 w=1;rule 1");
        x.person(0, 0, 0);
        x.person(0, 0, 0);
        // Nobody can bid: 0 1 2 3 0 1 come, worth 4 on DAYS 1 and 5.
        x.beside(0);
        x.beside(0);
        x.beside(2);
        due("by 0", x.spill(6, 0), 8);
        due("by 7: days 0 and 2", x.spill(6, 7), 8 + 28);
        due("1 day", x.spill(1, 99), 198);
        x.go();
        // 1 2 3 0 come beside 0 0 2.
        due("from the day that comes on", x.spill(4, 5), 4);
        due("m 0", x.spill(0, 0), FAR_BAD);
        due("m 41", x.spill(41, 0), FAR_BAD);
        due("n -1", x.spill(1, -1), FAR_BAD);
        due("n 100", x.spill(1, 100), FAR_BAD);
        due("m 40", x.spill(40, 99) > 0 ? 1 : 0, 1);
    }

    private static void poor() {
        promise = "18 poor";
        SoldWeather x = in("worth 9 w=1&p=0;worth 1 w=3&p=2;harm 30 w=0&p=1");
        x.person(0, 0, 0);
        x.person(0, 0, 0);
        x.person(0, 0, 0);
        due("1 day", x.poor(1, 0), 7);
        due("2 days", x.poor(2, 0), 6);
        due("4 days", x.poor(4, 0), 2);
        due("even", x.poor(4, 1), 39);
        due("even of 1 day", x.poor(1, 1), 30);
        due("n 0", x.poor(0, 0), BAD);
        due("n 41", x.poor(41, 1), BAD);
        due("what 2 first", x.poor(41, 2), NONE);
        due("what -1", x.poor(1, -1), NONE);
    }

    private static void worse() {
        promise = "19 worse";
        SoldWeather x = oneHarmed();
        due("two days", x.worse(3), 3);
        due("one day", x.worse(1), 1);
        x.fortune(-1);
        x.fortune(1);
        due("not worse than the same", x.worse(40), 0);
        due("n 0", x.worse(0), BAD);
        due("n 41", x.worse(41), BAD);
        // 3 is SOLD from day 1 on, and harms; the gift pays for it; fortune's 0 waits.
        SoldWeather y = in("worth 1 w=3&p=0;harm 9 w=3&p=1;gift 1");
        y.person(0, 0, 0);
        y.person(0, 0, 0);
        due("39 bits behind the first", y.worse(40), (1L << 40) - 2);
    }

    private static void book() {
        promise = "20 book";
        SoldWeather x = new SoldWeather();
        due("none", x.book(4), NONE);
        due("none", x.book(-2), NONE);
        for (int i = 1; i <= 12; i++) {
            due("book " + i, x.book(0), i);
        }
        due("full", x.book(0), FULL);
        due("full and none", x.book(9), NONE);
        due("count(4)", x.count(4), 12);
        due("emptied", x.book(-1), 0);
        due("count(4)", x.count(4), 0);
    }

    private static void looked() {
        promise = "21 looked";
        SoldWeather x = oneHarmed();
        due("empty", x.looked(), -5);
        x.book(1);
        x.book(1);
        x.book(0);
        due("as told", x.looked(), -5);
        x.book(2);
        due("fourth is 1", x.looked(), 3);
        x.go();
        due("from now on", x.looked(), 1);
        x.book(-1);
        x.book(0);
        due("first", x.looked(), 0);
    }

    private static void acted(SoldWeather x, int person, int act, int arg, int want, int... bodies) {
        String call = "act(" + person + ", " + act + ", " + arg + ")";
        due(call, x.act(person, act, arg), want);
        due("count(6) behind " + call, x.count(6), bodies.length);
        for (int i = 0; i < bodies.length; i++) {
            due("trace(" + i + ") behind " + call, x.trace(i), bodies[i]);
        }
        due("trace behind its end", x.trace(bodies.length), NONE);
    }

    private static void acts() {
        promise = "22 act, 23 trace";
        SoldWeather x = new SoldWeather();
        for (int kind = 0; kind < 7; kind++) {
            x.person(kind, 9 - kind, 0);
        }
        due("no trace at first", x.trace(0), NONE);
        acted(x, 0, 0, 5, 5, 1);
        acted(x, 0, 1, 5, -4, 2, 1);
        acted(x, 0, 2, 5, -8, 3, 2, 1);
        acted(x, 1, 0, 5, 16, 11, 1);
        acted(x, 1, 1, 5, 8, 2, 11, 1);
        acted(x, 1, 2, 5, 16, 3, 2, 11, 1);
        acted(x, 2, 0, 5, 7, 1);
        acted(x, 2, 1, 5, 0, 21, 2, 1);
        acted(x, 2, 2, 9, -8, 3, 21, 2, 1);
        acted(x, 3, 1, 5, 2, 2, 1);
        acted(x, 3, 2, 5, 4 ^ 7, 31, 3, 2, 1);
        acted(x, 4, 0, 5, 19, 11, 1);
        // pays(4): 4 * 3 + 4 - 5 = 11, twice, and 2 * 3 + 4.
        acted(x, 4, 2, 5, 32, 41, 3, 2, 11, 1, 11, 1);
        acted(x, 5, 0, 5, 10 ^ 5, 51, 1);
        acted(x, 5, 1, 5, -((10 ^ 5) - 4), 21, 2, 51, 1);
        acted(x, 5, 2, 5, -22, 3, 21, 2, 51, 1);
        acted(x, 6, 1, 5, -(11 - 3) + 3, 61, 21, 2, 1);
        acted(x, 6, 2, 5, -10, 3, 61, 21, 2, 1);
        acted(x, 1, 0, Integer.MAX_VALUE, Integer.MAX_VALUE * 3 + 1, 11, 1);
        acted(x, 0, 2, 1 << 30, (1 << 31) - 18, 3, 2, 1);
        acted(x, 7, 0, 5, 0);
        acted(x, 0, 0, 5, 5, 1);
        acted(x, 0, 3, 5, 0);
        acted(x, -1, 0, 5, 0);
        acted(x, 0, -1, 5, 0);
        due("trace(-1)", x.trace(-1), NONE);
    }

    private static void as() {
        promise = "24 as";
        int[] above = {-1, 0, 0, 0, 1, 2, 2};
        SoldWeather x = new SoldWeather();
        for (int kind = 0; kind < 7; kind++) {
            x.person(kind, 9 - kind, 0);
        }
        for (int kind = 0; kind < 7; kind++) {
            for (int k = 0; k < 7; k++) {
                boolean under = k == 0 || k == kind || k == above[kind];
                due("as(" + kind + ", " + k + ")", x.as(kind, k), under ? 9 - kind : -6);
            }
            due("k 7", x.as(kind, 7), NONE);
            due("k -1", x.as(kind, -1), NONE);
        }
        due("person 7", x.as(7, 0), NONE);
        due("person -1", x.as(-1, 0), NONE);
    }

    private static void image() {
        promise = "25 image, 26 undo";
        SoldWeather x = in("worth 5 w=1;gift 3");
        due("no image", x.undo(), STATE);
        x.person(6, 4, 50);
        x.row(0, 2, 8);
        x.fortune(2);
        x.beside(1);
        x.book(1);
        feed(x, "rule");
        x.go();
        due("image", x.image(), 1);
        x.person(1, 4, 50);
        x.row(0, 2, 9);
        x.fortune(-1);
        x.beside(-1);
        x.beside(2);
        x.book(3);
        due("fault", x.valley(), -14);
        read(x, "gift 4;rule 1");
        x.go();
        x.act(0, 1, 3);
        due("undo", x.undo(), 1);
        due("people", x.count(0), 1);
        due("valleys", x.count(1), 1);
        due("fortune", x.count(2), 5);
        due("beside", x.count(3), 1);
        due("book", x.count(4), 1);
        due("tape", x.count(5), 4);
        due("the trace stays", x.count(6), 4);
        due("the trace stays", x.trace(0), 61);
        due("rule", x.told(0), 0);
        due("gift", x.told(1), 3);
        due("day", x.told(2), 1);
        due("ahead", x.told(3), 2);
        due("purse", x.of(0, 2), 45);
        due("row", x.row(0, 2, 1), 8);
        due("tape goes on", x.feed(' '), 5);
        x.feed('2');
        due("valley", x.valley(), 1);
        due("rule", x.told(0), 2);
        due("undo again", x.undo(), 1);
        due("row again", x.row(0, 2, 1), 8);
        x.person(0, 0, 0);
        due("image of two", x.image(), 2);
        x.undo();
        due("row of the newer image", x.row(0, 2, 1), 1);
        due("beside as it was", x.spill(1, 0), 0);
        due("person behind undo", x.person(2, 1, 1), 2);
    }

    private static void rowsOfNewOnes() {
        promise = "7 row behind undo";
        SoldWeather x = new SoldWeather();
        x.image();
        x.person(6, 0, 99);
        for (int w = 0; w < 4; w++) {
            x.row(0, w, 44);
        }
        x.undo();
        x.person(6, 0, 99);
        for (int w = 0; w < 4; w++) {
            due("a new one has told nothing", x.row(0, w, 5), 0);
        }
    }

    private static void count() {
        promise = "27 count";
        SoldWeather x = in("gift 3");
        x.person(0, 0, 0);
        x.person(0, 0, 0);
        x.fortune(1);
        for (int i = 0; i < 3; i++) {
            x.beside(1);
        }
        for (int i = 0; i < 6; i++) {
            x.book(1);
        }
        feed(x, "1234567");
        x.act(0, 2, 0);
        int[] want = {2, 1, 5, 3, 6, 7, 3};
        for (int what = 0; what < want.length; what++) {
            due("count(" + what + ")", x.count(what), want[what]);
        }
        due("count(7)", x.count(7), NONE);
        due("count(-1)", x.count(-1), NONE);
    }

    private static void oddNumbers() {
        promise = "odd numbers";
        SoldWeather x = twoBidders(2);
        for (int odd : ODD) {
            for (int other : ODD) {
                due("row", x.row(odd, other, odd), NONE);
                due("of", x.of(odd, other), FAR_NONE);
                due("truly", x.truly(odd, other), NONE);
                due("as", x.as(odd, other), NONE);
                due("act", x.act(odd, other, odd), 0);
            }
            due("harm", x.harm(odd), NONE);
            due("sold", x.sold(odd), FAR_NONE);
            due("trace", x.trace(odd), NONE);
            due("leagues", x.leagues(odd), NONE);
        }
        due("nothing changed", x.sold(10), 20);
    }

    public static void main(String[] args) {
        newObject();
        feed();
        faults();
        valleys();
        worth();
        told();
        fortune();
        person();
        row();
        bidsOfKinds();
        leagueBids();
        aheadBids();
        of();
        go();
        sold();
        run();
        best();
        truly();
        harm();
        leagues();
        beside();
        spill();
        poor();
        worse();
        book();
        looked();
        acts();
        as();
        image();
        rowsOfNewOnes();
        count();
        oddNumbers();
        System.out.println(wrong == 0 ? "all answers are as due" : wrong + " answers are not as due");
        if (wrong != 0) {
            System.exit(1);
        }
    }
}
