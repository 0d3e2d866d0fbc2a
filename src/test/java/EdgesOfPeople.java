/** The boundary cases of promises 6 to 8: people, rows, what there is of one of them, bids. */
public final class EdgesOfPeople extends Edges {
    private static final int BIDDER = 0, LOW = 1, LEAGUE = 2, AHEAD = 3, SAVING = 4, SHARING = 5, TOLD = 6;

    private static void bids(Watched x, int person, int... want) {
        for (int w = 0; w < 4; w++) {
            due(x.of(person, 10 + w), want[w]);
        }
    }

    private static void person() {
        sentence(6, "NONE: kind; BAD: v, purse; FULL.");
        Watched x = fresh();
        for (int kind : new int[] {-1, 7, MIN, MAX}) {
            due(x.person(kind, 0, 0), NONE);
            due(x.person(kind, 10, 0), NONE);
            due(x.person(kind, 0, 1000), NONE);
            due(x.person(kind, -1, -1), NONE);
        }
        due(x.count(0), 0);
        due(x.person(0, 0, 0), 0);
        due(x.person(6, 9, 999), 1);

        sentence(6, "a number v (0 .. 9)");
        Watched y = fresh();
        for (int v : new int[] {-1, 10, MIN, MAX}) {
            due(y.person(0, v, 0), BAD);
        }
        due(y.person(0, 0, 5), 0);
        due(y.person(0, 9, 5), 1);
        due(y.of(0, 1), 0);
        due(y.of(1, 1), 9);

        sentence(6, "a PURSE (0 .. 999)");
        Watched z = fresh();
        for (int purse : new int[] {-1, 1000, MIN, MAX}) {
            due(z.person(0, 0, purse), BAD);
        }
        due(z.person(0, 0, 0), 0);
        due(z.person(0, 0, 999), 1);
        due(z.of(0, 2), 0);
        due(z.of(1, 2), 999);
    }

    private static void eightPeople() {
        sentence(6, "PEOPLE are numbered from 0 on, 8 at most");
        Watched x = fresh();
        for (int i = 0; i < 8; i++) {
            due(x.person(i % 7, i, 100 * i), i);
            due(x.count(0), i + 1);
        }
        due(x.person(0, 0, 0), FULL);
        due(x.person(6, 9, 999), FULL);
        due(x.person(7, 0, 0), NONE);
        due(x.person(-1, -1, -1), NONE);
        due(x.person(0, 10, 0), BAD);
        due(x.person(0, -1, 0), BAD);
        due(x.person(0, 0, 1000), BAD);
        due(x.person(0, 0, -1), BAD);
        due(x.count(0), 8);
        for (int i = 0; i < 8; i++) {
            due(x.of(i, 0), i % 7);
            due(x.of(i, 1), i);
            due(x.of(i, 2), 100 * i);
        }
    }

    private static void row() {
        sentence(7, "The ROW of a TOLD one tells n (0 .. 99) for a WEATHER: what it told.");
        Watched x = fresh();
        x.person(TOLD, 0, 50);
        for (int w = 0; w < 4; w++) {
            due(x.row(0, w, 99), 0);
            due(x.row(0, w, 0), 99);
            due(x.row(0, w, 10 + w), 0);
        }
        for (int n : new int[] {-1, 100, MIN, MAX}) {
            due(x.row(0, 0, n), BAD);
        }
        for (int w = 0; w < 4; w++) {
            due(x.row(0, w, 1), 10 + w);
        }

        sentence(7, "NONE; BAD; STATE: it has none.");
        Watched y = fresh();
        due(y.row(0, 0, 0), NONE);
        for (int kind = 0; kind < 7; kind++) {
            y.person(kind, 0, 50);
            due(y.row(kind, 3, 7), kind == TOLD ? 0 : STATE);
            due(y.row(kind, 3, 100), BAD);
            due(y.row(kind, 3, -1), BAD);
            due(y.row(kind, 4, 7), NONE);
            due(y.row(kind, -1, 100), NONE);
        }
        for (int nobody : new int[] {-1, 7, 8, MIN, MAX}) {
            due(y.row(nobody, 0, 0), NONE);
            due(y.row(nobody, 4, 100), NONE);
            due(y.row(nobody, 0, 100), NONE);
        }
        for (int weather : new int[] {MIN, MAX}) {
            due(y.row(6, weather, 0), NONE);
            due(y.row(0, weather, 100), NONE);
        }
        due(y.row(6, 3, 0), 7);
    }

    private static void lastOneHasARow() {
        sentence(7, "The ROW of a TOLD one");
        Watched x = fresh();
        for (int i = 0; i < 8; i++) {
            x.person(TOLD, 0, 99);
        }
        for (int i = 0; i < 8; i++) {
            for (int w = 0; w < 4; w++) {
                due(x.row(i, w, 10 * i + w), 0);
            }
        }
        for (int i = 0; i < 8; i++) {
            bids(x, i, 10 * i, 10 * i + 1, 10 * i + 2, 10 * i + 3);
        }
        due(x.row(8, 0, 0), NONE);
    }

    private static void of() {
        sentence(8, "10 and w the BID for WEATHER w, 20 and w its WORTH on the DAY that comes. -10001: NONE.");
        Watched x = in("worth 5 w=0;worth 6 w=1;worth 7 w=2;worth 8 w=3");
        x.person(BIDDER, 3, 7);
        int[] whats = {0, 1, 2, 10, 11, 12, 13, 20, 21, 22, 23};
        int[] wants = {0, 3, 7, 5, 6, 7, 7, 5, 6, 7, 8};
        for (int i = 0; i < whats.length; i++) {
            due(x.of(0, whats[i]), wants[i]);
        }
        for (int what : new int[] {-1, 3, 9, 14, 19, 24, 30, MIN, MIN + 9, MIN + 19, MAX}) {
            due(x.of(0, what), FAR_NONE);
        }
        for (int nobody : new int[] {-1, 1, 8, MIN, MAX}) {
            due(x.of(nobody, 0), FAR_NONE);
            due(x.of(nobody, 10), FAR_NONE);
            due(x.of(nobody, 23), FAR_NONE);
            due(x.of(nobody, 99), FAR_NONE);
        }
        Watched eight = in("worth 9 p=7");
        for (int i = 0; i < 8; i++) {
            eight.person(BIDDER, 0, 9);
        }
        due(eight.of(7, 13), 9);
        due(eight.of(7, 23), 9);
        due(eight.of(6, 23), 0);
        due(eight.of(8, 23), FAR_NONE);
    }

    private static void bounds() {
        sentence(8, "(as the evening is; 0 at least, PURSE at most): BIDDER: WORTH.");
        Watched x = in("worth 50 w=1;worth 51 w=2;harm 1 w=3");
        x.person(BIDDER, 0, 50);
        x.person(BIDDER, 0, 51);
        x.person(BIDDER, 0, 49);
        x.person(BIDDER, 0, 0);
        bids(x, 0, 0, 50, 50, 0);
        bids(x, 1, 0, 50, 51, 0);
        bids(x, 2, 0, 49, 49, 0);
        bids(x, 3, 0, 0, 0, 0);
        due(x.of(3, 22), 51);
        due(x.of(3, 23), -1);
        Watched most = in("worth 99 w=1" + ";worth 99 w=1".repeat(8));
        most.person(BIDDER, 0, 999);
        most.person(BIDDER, 0, 890);
        bids(most, 0, 0, 891, 0, 0);
        bids(most, 1, 0, 890, 0, 0);
    }

    private static void low() {
        sentence(8, "LOW: WORTH by (v and 1) (cut toward 0).");
        Watched x = in("worth 9 w=0;worth 10 w=1;worth 19 w=2;harm 99 w=3");
        x.person(LOW, 0, 999);
        x.person(LOW, 1, 999);
        x.person(LOW, 9, 999);
        x.person(LOW, 1, 4);
        bids(x, 0, 9, 10, 19, 0);
        bids(x, 1, 4, 5, 9, 0);
        bids(x, 2, 0, 1, 1, 0);
        bids(x, 3, 4, 4, 4, 0);
    }

    private static void league() {
        sentence(8, "if the one whose number is v is another one, and of KIND LEAGUE, or under it");
        for (int kind = 0; kind < 7; kind++) {
            Watched x = in("worth 10 p=0;worth 5 p=1");
            x.person(LEAGUE, 1, 999);
            bids(x, 0, 10, 10, 10, 10);
            x.person(kind, 1, 999);
            int bid = kind == LEAGUE || kind == SHARING || kind == TOLD ? 7 : 10;
            bids(x, 0, bid, bid, bid, bid);
        }
        Watched x = in("worth 10 p=0;worth 5 p=7;worth 90 p=1");
        x.person(LEAGUE, 0, 999);
        for (int i = 1; i < 7; i++) {
            x.person(LEAGUE, 9, 999);
        }
        due(x.person(LEAGUE, 7, 999), 7);
        bids(x, 0, 10, 10, 10, 10);
        bids(x, 1, 90, 90, 90, 90);
        bids(x, 7, 5, 5, 5, 5);
        Watched last = in("worth 10 p=0;worth 5 p=7");
        last.person(LEAGUE, 7, 999);
        for (int i = 1; i < 7; i++) {
            last.person(BIDDER, 0, 0);
        }
        bids(last, 0, 10, 10, 10, 10);
        last.person(TOLD, 0, 0);
        bids(last, 0, 7, 7, 7, 7);

        sentence(8, "WORTH to both, together, by 2 (cut toward 0)");
        Watched y = in("worth 3 p=0;harm 2 p=1&w=0;harm 3 p=1&w=1;harm 4 p=1&w=2;worth 95 p=1&w=3");
        y.person(LEAGUE, 1, 40);
        y.person(LEAGUE, 0, 999);
        bids(y, 0, 0, 0, 0, 40);
        bids(y, 1, 0, 0, 0, 49);
    }

    private static void aheadCuts() {
        sentence(8, "AHEAD: WORTH, and v times the greatest WORTH to it of any WEATHER on the DAY behind this one");
        int[] plus = {5, 5, 6, 13};
        int[] minus = {5, 5, 4, 0};
        int[] v = {0, 1, 2, 9};
        Watched x = in("worth 5 d=0;worth 9 d=1");
        Watched y = in("worth 5 d=0;harm 9 d=1");
        for (int i = 0; i < v.length; i++) {
            x.person(AHEAD, v[i], 999);
            bids(x, i, plus[i], plus[i], plus[i], plus[i]);
            y.person(AHEAD, v[i], 999);
            bids(y, i, minus[i], minus[i], minus[i], minus[i]);
        }
        Watched least = in("harm 30 d=1&w<3;harm 10 d=1;worth 5 d=0");
        least.person(AHEAD, 5, 999);
        // The greatest is -10 of WEATHER 3: 5 times that by 10 are 5 less.
        bids(least, 0, 0, 0, 0, 0);
        least.person(AHEAD, 4, 3);
        bids(least, 1, 1, 1, 1, 1);

        for (int w = 0; w < 4; w++) {
            Watched one = in("worth 40 d=1&w=" + w);
            one.person(AHEAD, 5, 999);
            bids(one, 0, 20, 20, 20, 20);
        }

        sentence(8, "the WEATHER bid for being ahead of that, by 10 (cut toward 0).");
        Watched z = in("worth 40 d=1&y=3&w=2;worth 99 d=1&y=0&w=3&p=1;worth 1 d=0&w=1");
        z.person(AHEAD, 5, 999);
        z.person(AHEAD, 9, 88);
        bids(z, 0, 0, 1, 0, 20);
        bids(z, 1, 88, 1, 0, 36);
    }

    private static void aheadOfLastDays() {
        sentence(8, "on the DAY behind this one");
        Watched x = in("worth 50 d=0&p=0");
        x.person(AHEAD, 5, 0);
        x.person(BIDDER, 0, 0);
        goDays(x, 6);
        due(read(x, "worth 50 d=0;worth 1 d=6;gift 99"), 1);
        x.person(AHEAD, 5, 999);
        bids(x, 2, 26, 26, 26, 26);
        Watched y = in("worth 50 d=2");
        goDays(y, 99);
        y.person(AHEAD, 5, 999);
        // DAY 100 is behind DAY 99: d is 2.
        bids(y, 0, 25, 25, 25, 25);
        due(y.of(0, 20), 0);
    }

    private static void saving() {
        sentence(8, "SAVING: as LOW, but nothing while its PURSE is below 10 times v.");
        int[][] cases = {{5, 49, 0}, {5, 50, 10}, {5, 51, 10}, {9, 89, 0}, {9, 90, 6}, {0, 0, 0}, {0, 1, 1}, {1, 9, 0}};
        Watched x = in("worth 60 w=1;harm 60 w=2");
        for (int i = 0; i < cases.length; i++) {
            due(x.person(SAVING, cases[i][0], cases[i][1]), i);
            bids(x, i, 0, cases[i][2], 0, 0);
        }
        Watched y = in("worth 22 w=1;gift 1");
        y.person(SAVING, 1, 9);
        due(y.go(), 0);
        // 10 is enough: it bids 11, but 10 at most.
        bids(y, 0, 0, 10, 0, 0);
    }

    private static void sharing() {
        sentence(8, "SHARING: as LEAGUE for the WEATHER for which that is most (of several the least), for others nothing.");
        Watched x = in("worth 5 w>0;worth 1 w=3&p=1;harm 9 p=2;harm 9 w=0&p=3;harm 5 p=3");
        for (int i = 0; i < 4; i++) {
            x.person(SHARING, i, 99);
        }
        bids(x, 0, 0, 5, 0, 0);
        bids(x, 1, 0, 0, 0, 6);
        bids(x, 2, 0, 0, 0, 0);
        bids(x, 3, 0, 0, 0, 0);
        Watched same = in("worth 4 k<9");
        same.person(SHARING, 0, 3);
        bids(same, 0, 3, 0, 0, 0);
        // By 2, and cut, both are 2.
        Watched y = in("worth 4 w=0&p=0;worth 5 w=1&p=0");
        y.person(SHARING, 1, 99);
        y.person(LEAGUE, 9, 99);
        bids(y, 0, 2, 0, 0, 0);
        Watched z = in("worth 20 w=0;worth 30 w=2");
        z.person(SHARING, 0, 10);
        bids(z, 0, 0, 0, 10, 0);
    }

    private static void noOtherWeathers() {
        sentence(8, "for the WEATHER for which that is most");
        Watched x = in("worth 1 w=2;worth 50 w>3;worth 50 w<0;worth 50 y>3;worth 50 y<0");
        for (int kind = 0; kind < 7; kind++) {
            x.person(kind, 0, 999);
            int bid = kind == TOLD ? 0 : 1;
            bids(x, kind, 0, 0, bid, 0);
        }
        x.person(AHEAD, 9, 999);
        // 9 times 1 by 10 is nothing.
        bids(x, 7, 0, 0, 1, 0);
        due(x.best(1, -1), 8);
        due(x.best(8, -1), 64);
        due(x.best(8, 7), 2);
    }

    private static void told() {
        sentence(8, "TOLD: what its ROW tells for the WEATHER (0 without).");
        Watched x = in("worth 9 w<9");
        x.person(TOLD, 1, 50);
        x.person(TOLD, 0, 99);
        x.person(TOLD, 0, 0);
        bids(x, 0, 0, 0, 0, 0);
        x.row(0, 0, 49);
        x.row(0, 1, 50);
        x.row(0, 2, 51);
        x.row(0, 3, 99);
        x.row(1, 3, 99);
        x.row(2, 3, 99);
        bids(x, 0, 49, 50, 50, 50);
        bids(x, 1, 0, 0, 0, 99);
        bids(x, 2, 0, 0, 0, 0);
        due(x.row(0, 3, 0), 99);
        bids(x, 0, 49, 50, 50, 0);
    }

    public static void main(String[] args) {
        person();
        eightPeople();
        row();
        lastOneHasARow();
        of();
        bounds();
        low();
        league();
        aheadCuts();
        aheadOfLastDays();
        saving();
        sharing();
        noOtherWeathers();
        told();
        end(6, 8);
    }
}
