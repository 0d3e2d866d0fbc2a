/** The boundary cases of promises 9 to 15: evenings, runs of them, the best row, lying, harm, leagues. */
public final class EdgesOfEvenings extends Edges {
    private static final int BIDDER = 0, LEAGUE = 2, TOLD = 6;
    private static final int[] OUTSIDE = {-1, 8, MIN, MAX};

    private static Watched people(Watched x, int kind, int... purses) {
        for (int purse : purses) {
            x.person(kind, 0, purse);
        }
        return x;
    }

    private static void lastDay() {
        sentence(9, "STATE: it is DAY 99.");
        Watched x = people(in("worth 1 w=2;gift 3"), BIDDER, 0);
        goDays(x, 98);
        due(x.told(2), 98);
        due(x.go(), 2);
        due(x.told(2), 99);
        int purse = x.of(0, 2);
        due(purse, 99 * 3 - 98);
        due(x.go(), STATE);
        due(x.go(), STATE);
        due(x.told(2), 99);
        due(x.told(3), 2);
        due(x.of(0, 2), purse);
        due(x.sold(0), 2);
        Watched y = fresh();
        goDays(y, 99);
        due(y.told(4), 3);
        due(y.go(), STATE);
        due(y.told(4), 3);
        due(y.told(3), 2);
    }

    private static void nobodyBids() {
        sentence(9, "if all BIDS are 0, SOLD is FORTUNE's next one (its turn is over then), and nobody PAYS.");
        for (int rule = 0; rule <= 2; rule++) {
            Watched x = people(in("worth 50 w=2;harm 5 w=1;rule " + rule), BIDDER, 0);
            for (int i = 0; i < 5; i++) {
                due(x.sold(0), i % 4);
                due(x.sold(1), 0);
                due(x.sold(10), 0);
                due(x.go(), i % 4);
                due(x.told(4), (i + 1) % 4);
                due(x.of(0, 2), 0);
            }
            x.person(BIDDER, 0, 1);
            due(x.go(), 2);
            due(x.told(4), 1);
            due(x.told(3), 2);
        }
        Watched harmed = people(in("harm 5 w<9"), BIDDER, 99);
        due(harmed.go(), 0);
        due(harmed.go(), 1);
        due(harmed.of(0, 2), 99);
    }

    private static void leastOfSeveral() {
        sentence(9, "SOLD is the WEATHER for which all BIDS, together, are most (of several the least)");
        due(people(in("worth 5 w<9"), BIDDER, 9).go(), 0);
        due(people(in("worth 5 w>1"), BIDDER, 9).go(), 2);
        due(people(in("worth 5 w=3&p=0;worth 5 w=1&p=1"), BIDDER, 9, 9).go(), 1);
        due(people(in("worth 6 w=3&p=0;worth 5 w=1&p=1"), BIDDER, 9, 9).go(), 3);
        due(people(in("worth 5 w=3&p<2;worth 9 w=1&p=2"), BIDDER, 9, 9, 9).go(), 3);
        due(people(in("worth 1 w=3"), BIDDER, 1).go(), 3);
        Watched again = people(in("worth 5 w<2"), BIDDER, 99);
        for (int i = 0; i < 3; i++) {
            due(again.sold(0), 0);
            due(again.go(), 0);
        }
    }

    private static void purses() {
        sentence(9, "PURSES are less by that (0 at least), and gift more (999 at most).");
        Watched x = people(in("gift 99"), BIDDER, 899, 900, 901, 999, 0);
        due(x.go(), 0);
        int[] then = {998, 999, 999, 999, 99};
        for (int i = 0; i < then.length; i++) {
            due(x.of(i, 2), then[i]);
        }
        // First it pays, then the gift comes.
        Watched y = people(in("worth 10 w=1;gift 5"), BIDDER, 999, 10, 4, 0);
        due(y.go(), 1);
        int[] left = {994, 5, 5, 5};
        for (int i = 0; i < left.length; i++) {
            due(y.of(i, 2), left[i]);
        }
        Watched z = people(in("worth 99 w=1;gift 0"), BIDDER, 7);
        due(z.go(), 1);
        due(z.of(0, 2), 0);
        due(z.go(), 0);
        due(z.of(0, 2), 0);

        sentence(9, "The DAY is one more, what is SOLD is ahead of it.");
        due(y.told(2), 1);
        due(y.told(3), 1);
    }

    private static void sold() {
        sentence(10, "what 0 SOLD, 1 all BIDS for it together, 10 and p what one PAYS. -10001: NONE.");
        Watched x = in("worth 5 w=1");
        for (int i = 0; i < 8; i++) {
            due(x.sold(10 + i), FAR_NONE);
            x.person(BIDDER, 0, i);
            due(x.sold(10 + i), Math.min(i, 5));
        }
        due(x.sold(0), 1);
        due(x.sold(1), 0 + 1 + 2 + 3 + 4 + 5 + 5 + 5);
        for (int what : new int[] {-1, 2, 9, 18, 20, MIN, MIN + 9, MAX}) {
            due(x.sold(what), FAR_NONE);
        }
        due(x.told(2), 0);
        Watched nobody = fresh();
        due(nobody.sold(0), 0);
        due(nobody.sold(1), 0);
        due(nobody.sold(10), FAR_NONE);
    }

    private static void payings() {
        sentence(10, "0: its BID for what is SOLD.");
        Watched own = people(in("worth 10 w=1&p=0;worth 9 w=2&p=1"), BIDDER, 99, 99);
        due(own.sold(10), 10);
        due(own.sold(11), 0);

        sentence(10, "the most that BIDS of all others, together, come to for any WEATHER, less what they come to for what is SOLD");
        Watched alone = people(in("worth 7 w=3;rule 1"), BIDDER, 99);
        due(alone.sold(10), 0);
        Watched tied = people(in("worth 7 w=1&p=0;worth 7 w=2&p=1;rule 1"), BIDDER, 99, 99);
        due(tied.sold(0), 1);
        due(tied.sold(10), 7);
        due(tied.sold(11), 0);
        Watched three = people(in("worth 10 w=1&p=0;worth 4 w=2&p=1;worth 3 w=2&p=2;worth 2 w=1&p=2;rule 1"),
            BIDDER, 99, 99, 99);
        // Without 0 the others come to 7 for 2, and to 2 for what is SOLD.
        due(three.sold(1), 12);
        due(three.sold(10), 5);
        due(three.sold(11), 0);
        due(three.sold(12), 0);
    }

    private static void payingsByShare() {
        sentence(10, "less the greatest sum for any other WEATHER) by how many BID above 0 for what is SOLD (cut); 0 at least.");
        Watched x = people(in("worth 10 w=1&p=0;worth 1 w=1&p=1;worth 2 w=2&p=2;worth 1 w=3&p=2;rule 2"), BIDDER, 99, 99, 99);
        // 11 less 2 by 2, cut, are 4.
        due(x.sold(10), 6);
        due(x.sold(11), 0);
        due(x.sold(12), 0);
        Watched four = people(in("worth 5 w=1&p=0;worth 4 w=1&p=1;worth 1 w=0&p=2;rule 2"), BIDDER, 99, 99, 99);
        // 9 less 1 by 2 are 4: the one pays 1, the other just 0.
        due(four.sold(10), 1);
        due(four.sold(11), 0);
        for (int other = 0; other < 4; other++) {
            if (other != 1) {
                Watched y = people(in("worth 7 w=1&p<2;worth 4 w=" + other + "&p=2;rule 2"), BIDDER, 99, 99, 99);
                // 14 less 4 by 2.
                due(y.sold(10), 2);
                due(y.sold(12), 0);
            }
        }
        Watched eight = people(in("worth 9 w=0;rule 2"), BIDDER, 9, 9, 9, 9, 9, 9, 9, 2);
        // 65 by 8, cut, are 8.
        due(eight.sold(1), 65);
        due(eight.sold(10), 1);
        due(eight.sold(17), 0);
        due(eight.run(1, 2), 7);
        Watched alone = people(in("worth 7 w=3;rule 2"), BIDDER, 99);
        due(alone.sold(10), 0);
        Watched tied = people(in("worth 5 w=1&p=0;worth 5 w=2&p=1;rule 2"), BIDDER, 99, 99);
        due(tied.sold(10), 5);
        due(tied.sold(11), 0);
        Watched nobody = people(in("rule 2"), BIDDER, 99);
        due(nobody.sold(10), 0);
    }

    private static void run() {
        sentence(11, "RUN of n DAYS (0 .. 40): n EVENINGS from now on (also beyond DAY 99): what is SOLD on the last one (-5: n is 0)");
        Watched x = people(in("worth 10 w=1&p=0;gift 1"), BIDDER, 30, 7);
        due(x.run(0, 0), -5);
        due(x.run(0, 1), 0);
        due(x.run(0, 2), 0);
        due(x.run(0, 10), 30);
        due(x.run(0, 11), 7);
        due(x.run(1, 0), 1);
        due(x.run(1, 2), 10);
        due(x.run(40, 11), 47);
        for (int n : new int[] {-1, 41, MIN, MAX}) {
            due(x.run(n, 0), FAR_BAD);
            due(x.run(n, 1), FAR_BAD);
            due(x.run(n, 2), FAR_BAD);
            due(x.run(n, 11), FAR_BAD);
        }

        sentence(11, "-10001: NONE: what; -10002: BAD.");
        for (int what : new int[] {-1, 3, 9, 12, 18, MIN, MIN + 9, MAX}) {
            due(x.run(5, what), FAR_NONE);
            due(x.run(0, what), FAR_NONE);
            due(x.run(41, what), FAR_NONE);
            due(x.run(-1, what), FAR_NONE);
        }
        due(x.told(2), 0);
        due(x.of(0, 2), 30);
        Watched nobody = fresh();
        due(nobody.run(40, 0), 3);
        due(nobody.run(40, 1), 0);
        due(nobody.run(40, 2), 0);
        due(nobody.run(40, 10), FAR_NONE);
        Watched eight = people(in("gift 99"), BIDDER, 0, 0, 0, 0, 0, 0, 0, 5);
        due(eight.run(1, 17), 104);
        due(eight.run(40, 17), 999);
        due(eight.run(1, 18), FAR_NONE);
    }

    private static void runBeyondTheLastDay() {
        sentence(11, "(also beyond DAY 99)");
        Watched x = in("worth 1 d=2");
        goDays(x, 99);
        x.person(BIDDER, 0, 999);
        // d is 2 on DAYS 100, 107, 114, 121, 128 and 135; DAY 138 is the last one.
        due(x.run(1, 0), 3);
        due(x.run(1, 2), 0);
        due(x.run(2, 0), 0);
        due(x.run(2, 2), 1);
        due(x.run(40, 1), 6);
        due(x.run(40, 2), 6);
        due(x.run(36, 10), 994);
        due(x.run(37, 10), 993);
        due(x.run(40, 10), 993);
        due(x.told(2), 99);
        Watched y = fresh();
        goDays(y, 98);
        due(y.run(1, 0), 2);
        due(y.run(2, 0), 3);
        due(y.run(40, 0), 1);
    }

    private static void worthOfRuns() {
        sentence(11, "ALL WORTH: of what is SOLD on each to all PEOPLE, together; all that is PAID; the PURSE of one then.");
        Watched x = people(in("harm 99 w<9" + ";harm 99 w<9".repeat(8)), BIDDER, 9, 9, 9, 9, 9, 9, 9, 9);
        due(x.run(1, 1), -891 * 8);
        due(x.run(40, 1), -891 * 8 * 40);
        due(x.best(8, -1), -891 * 8 * 8);
        Watched y = people(in("worth 99 w<9" + ";worth 99 w<9".repeat(8)), BIDDER, 999, 999, 999, 999, 999, 999, 999, 999);
        due(y.sold(1), 891 * 8);
        due(y.run(40, 1), 891 * 8 * 40);
        due(y.run(1, 2), 891 * 8);
        due(y.run(2, 2), 999 * 8);
        due(y.run(40, 2), 999 * 8);
        due(y.best(8, -1), 891 * 8 * 8);
        due(y.run(2, 17), 0);
    }

    private static void best() {
        sentence(12, "BEST of n DAYS: k -1 all WORTH, else the WEATHER of DAY k (0 .. n - 1). -10002: BAD: n; -10001: NONE: k.");
        Watched x = people(in("worth 5 w=3"), BIDDER, 0, 0);
        for (int n = 1; n <= 8; n++) {
            due(x.best(n, -1), 10 * n);
            due(x.best(n, 0), 3);
            due(x.best(n, n - 1), 3);
            due(x.best(n, n), FAR_NONE);
            due(x.best(n, -2), FAR_NONE);
        }
        for (int n : new int[] {0, -1, 9, MIN, MAX}) {
            due(x.best(n, -1), FAR_BAD);
            due(x.best(n, 0), FAR_BAD);
            due(x.best(n, n), FAR_BAD);
            due(x.best(n, -2), FAR_BAD);
        }
        due(x.best(8, MIN), FAR_NONE);
        due(x.best(8, MAX), FAR_NONE);

        sentence(12, "of several the first as a row.");
        Watched nobody = fresh();
        due(nobody.best(8, -1), 0);
        for (int k = 0; k < 8; k++) {
            due(nobody.best(8, k), 0);
        }
        Watched y = people(in("worth 5 w=2&y=0&d=1;worth 5 w=0&y=3&d=1"), BIDDER, 0);
        due(y.best(2, -1), 5);
        due(y.best(2, 0), 0);
        due(y.best(2, 1), 2);
        Watched z = people(in("worth 5 w=1;worth 5 w=2;harm 5 w=0;worth 1 w=3&y=1&d=7"), BIDDER, 0);
        for (int k = 0; k < 8; k++) {
            due(z.best(8, k), 1);
        }
        // d is never 7.
        due(z.best(8, -1), 40);
    }

    private static void bestOfDays() {
        sentence(12, "the row of WEATHERS on these DAYS with the most WORTH to all PEOPLE, together (each being ahead of the next one)");
        Watched x = people(in("worth 5 w=1&y=2&d=3;harm 9 w=1&y=1"), BIDDER, 0);
        goDays(x, 3);
        due(x.best(1, -1), 5);
        due(x.best(1, 0), 1);
        due(x.best(2, -1), 5);
        due(x.best(2, 1), 0);
        Watched late = in("worth 5 w=3&d=2");
        goDays(late, 99);
        late.person(BIDDER, 0, 0);
        due(late.best(1, -1), 0);
        due(late.best(2, -1), 5);
        due(late.best(2, 0), 0);
        due(late.best(2, 1), 3);
        due(late.best(8, -1), 5);
        Watched below = people(in("harm 7 w<9;worth 1 w=2"), BIDDER, 0, 0);
        due(below.best(1, -1), -12);
        due(below.best(1, 0), 2);
        due(below.best(8, -1), -96);
    }

    /** One who bids nothing but to whom WEATHER 1 is worth 90, and one who bids some for WEATHER 3. */
    private static Watched liar(int purse, int other) {
        Watched x = in("worth 90 w=1&p=0;worth " + other + " w=3&p=1");
        x.person(TOLD, 0, purse);
        x.person(BIDDER, 0, 99);
        return x;
    }

    private static void lies(Watched x, int gain, int weather, int bid) {
        due(x.truly(0, 0), gain);
        due(x.truly(0, 1), weather);
        due(x.truly(0, 2), bid);
    }

    private static void truly() {
        sentence(13, "if its BID for some WEATHER were some b (0 .. 40; PURSE at most), all else as it is, less its GAIN as it is");
        lies(liar(99, 39), 51, 1, 39);
        lies(liar(99, 40), 50, 1, 40);
        lies(liar(99, 41), 0, -5, -5);
        lies(liar(40, 40), 50, 1, 40);
        lies(liar(39, 40), 0, -5, -5);
        lies(liar(39, 39), 51, 1, 39);
        lies(liar(0, 0), 0, -5, -5);
        Watched y = people(in("worth 50 w=0;harm 1 w=3"), TOLD, 3);
        y.row(0, 3, 3);
        // 3 for 0 ties, and is paid; 0 for 3 leaves all to FORTUNE.
        lies(y, 54, 3, 0);

        sentence(13, "0 at least; of several (above 0) the least WEATHER, then the least b.");
        Watched free = people(in("worth 10 w=1;worth 10 w=2;rule 1"), TOLD, 99);
        lies(free, 10, 1, 1);
        Watched tied = in("worth 5 w=3&p=1;worth 4 w=2&p=1;worth 15 w=0&p=0;worth 11 w=2&p=0;rule 1");
        tied.person(TOLD, 0, 99);
        tied.person(BIDDER, 0, 99);
        lies(tied, 10, 0, 5);
        lies(people(in("worth 10 w=2;rule 1"), BIDDER, 99), 0, -5, -5);
        lies(people(in("worth 10 w=2"), BIDDER, 99), 9, 2, 1);
        lies(people(in("harm 10 w<9"), BIDDER, 99), 0, -5, -5);
        lies(people(in("worth 1 w=2"), BIDDER, 99), 0, -5, -5);
    }

    private static void trulyRefuses() {
        sentence(13, "TRULY: what 0 the gain, 1 the WEATHER, 2 the BID (-5: no gain). NONE.");
        Watched x = liar(99, 30);
        for (int what : new int[] {-1, 3, 10, MIN, MAX}) {
            due(x.truly(0, what), NONE);
            due(x.truly(2, what), NONE);
        }
        for (int nobody : new int[] {-1, 2, 8, MIN, MAX}) {
            due(x.truly(nobody, 0), NONE);
            due(x.truly(nobody, 2), NONE);
        }
        lies(x, 60, 1, 30);
        Watched eight = people(in("worth 9 p=7&w=1"), BIDDER, 0, 0, 0, 0, 0, 0, 0, 9);
        due(eight.truly(7, 0), 8);
        due(eight.truly(7, 2), 1);
        due(eight.truly(8, 0), NONE);
    }

    private static void harm() {
        sentence(14, "HARM. NONE.");
        Watched x = in("worth 9 w=1&p=7;worth 4 w=0&p=0");
        for (int i = 0; i < 8; i++) {
            due(x.harm(i), NONE);
            x.person(BIDDER, 0, 99);
            due(x.harm(i), i == 7 ? 4 : 0);
        }
        due(x.harm(0), 0);
        for (int nobody : OUTSIDE) {
            due(x.harm(nobody), NONE);
        }

        sentence(14, "HARM of one is told whatever rule there is (0, if all BIDS are 0).");
        for (int rule = 0; rule <= 2; rule++) {
            Watched y = people(in("worth 30 w=1&p=0;worth 20 w=2&p=1;rule " + rule), BIDDER, 99, 99);
            due(y.harm(0), 20);
            due(y.harm(1), 0);
            Watched z = people(in("worth 30 w=1&p=0;worth 20 w=2&p=1;rule " + rule), BIDDER, 0, 0);
            due(z.harm(0), 0);
            due(z.harm(1), 0);
            z.go();
            due(z.harm(0), 0);
        }
    }

    private static void leagues() {
        sentence(15, "LEAGUES: what 0 how many, 1 the first (10 times the lesser number, and the other one; -5). NONE.");
        Watched x = fresh();
        due(x.leagues(0), 0);
        due(x.leagues(1), -5);
        x.person(TOLD, 0, 9);
        x.row(0, 3, 1);
        due(x.leagues(0), 0);
        due(x.leagues(1), -5);
        for (int i = 1; i < 8; i++) {
            x.person(TOLD, 0, 9);
            x.row(i, 3, 1);
        }
        // Whoever is in a league bids nothing then, and pays nothing: every pair gains 2.
        due(x.leagues(0), 28);
        due(x.leagues(1), 1);
        for (int what : new int[] {-1, 2, 10, MIN, MAX}) {
            due(x.leagues(what), NONE);
        }
        due(x.sold(1), 8);

        sentence(15, "the first (by the lesser number, then the other one).");
        Watched last = in("worth 12 w=2&p=0;worth 10 w=1&p>5;rule 1");
        last.person(BIDDER, 0, 99);
        people(last, BIDDER, 9, 9, 9, 9, 9);
        people(last, TOLD, 99, 99);
        due(last.leagues(0), 1);
        due(last.leagues(1), 67);
        Watched middle = fresh();
        people(middle, BIDDER, 9, 9);
        people(middle, TOLD, 9);
        people(middle, BIDDER, 9);
        middle.row(2, 3, 8);
        due(middle.leagues(0), 3);
        due(middle.leagues(1), 2);
    }

    /** One who bids for WEATHER 2, and two to whom WEATHER 1 has worth, but who bid nothing. */
    private static Watched pair(int rival, int one, int other, int purse, int otherPurse) {
        Watched x = in("worth " + rival + " w=2&p=0;worth " + one + " w=1&p=1;worth " + other + " w=1&p=2;rule 1");
        people(x, BIDDER, 99);
        return people(x, TOLD, purse, otherPurse);
    }

    private static void halves() {
        sentence(15, "(cut toward 0; 0 at least, PURSE at most), for each WEATHER, all else as it is");
        due(pair(22, 11, 12, 99, 99).leagues(1), 12);
        due(pair(23, 11, 12, 99, 99).leagues(1), -5);
        due(pair(12, 10, 10, 6, 6).leagues(1), 12);
        due(pair(12, 10, 10, 6, 5).leagues(1), -5);
        due(pair(12, 10, 10, 0, 99).leagues(1), -5);
        for (int w = 0; w < 2; w++) {
            Watched both = people(in("worth 5 w=2&p=0;worth 9 w=" + w + "&p>0;rule 1"), BIDDER, 99);
            due(people(both, TOLD, 99, 99).leagues(1), 1);
            due(both.leagues(0), 3);
        }
        // Two whom WEATHER 1 harms cannot bid less than nothing; with the one who buys it they can.
        Watched x = people(in("worth 5 w=1&p=0;harm 10 w=1&p>0"), BIDDER, 9, 9, 9);
        due(x.leagues(0), 2);
        due(x.leagues(1), 1);

        sentence(15, "pairs of PEOPLE whose GAINS, together, would be more than as it is");
        Watched same = people(in("worth 8 w=1&p<2"), BIDDER, 99, 99);
        due(same.leagues(0), 0);
        due(same.leagues(1), -5);
        Watched odd = people(in("worth 8 w=1&p=0;worth 9 w=1&p=1"), BIDDER, 99, 99);
        due(odd.leagues(0), 1);
        due(odd.leagues(1), 1);
        // Here both bid 8, as they would together.
        Watched inOne = people(in("worth 8 w=1&p=0;worth 9 w=1&p=1"), LEAGUE, 99, 99);
        due(inOne.leagues(0), 0);
    }

    /** Worth hangs on the DAY, on the WEATHER ahead and on who it is; purses run empty and fill again. */
    private static Watched busy() {
        Watched x = in("worth 20 w=1&y=0;worth 30 w=2&p>1;harm 9 w=1&p=3;worth 9 d=1|y=2;harm 40 p=4&y=2;rule 1;gift 4");
        int[][] people = {{0, 0, 50}, {1, 1, 40}, {2, 5, 60}, {3, 5, 30}, {4, 2, 21}, {5, 2, 70}, {6, 0, 80}};
        for (int[] one : people) {
            x.person(one[0], one[1], one[2]);
        }
        x.row(6, 1, 15);
        for (int weather = 0; weather < 4; weather++) {
            x.beside(weather);
            x.book(weather == 0 ? 2 : 1);
        }
        x.go();
        return x;
    }

    private interface Question {
        long ask(Watched x);
    }

    private static void askedInAnyOrder() {
        sentence(9, "all that follows is asked, goes on from how all is.");
        Question[] all = {x -> x.told(3), x -> x.told(4), x -> x.of(0, 11), x -> x.of(3, 12), x -> x.of(1, 22),
            x -> x.of(0, 21), x -> x.of(4, 20), x -> x.of(2, 22),
            x -> x.of(4, 2), x -> x.sold(0), x -> x.sold(1), x -> x.sold(12), x -> x.run(1, 0), x -> x.run(40, 1),
            x -> x.run(7, 2), x -> x.run(9, 10), x -> x.best(8, -1), x -> x.best(3, -1), x -> x.best(1, 0),
            x -> x.truly(0, 0), x -> x.truly(6, 2), x -> x.harm(2), x -> x.leagues(0), x -> x.leagues(1),
            x -> x.spill(40, 9), x -> x.spill(2, 9), x -> x.poor(40, 0), x -> x.poor(3, 1), x -> x.worse(40),
            x -> x.worse(2), x -> x.looked()};
        long[] first = new long[all.length];
        for (int i = 0; i < all.length; i++) {
            first[i] = all[i].ask(busy());
        }
        for (Question before : all) {
            Watched x = busy();
            for (int i = 0; i < all.length; i++) {
                before.ask(x);
                due(all[i].ask(x), first[i]);
            }
        }
    }

    public static void main(String[] args) {
        lastDay();
        nobodyBids();
        leastOfSeveral();
        purses();
        sold();
        payings();
        payingsByShare();
        run();
        runBeyondTheLastDay();
        worthOfRuns();
        best();
        bestOfDays();
        truly();
        trulyRefuses();
        harm();
        leagues();
        halves();
        askedInAnyOrder();
        end(9, 15);
    }
}
