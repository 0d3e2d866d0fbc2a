/** The boundary cases of promises 16 to 21: the valley beside, what spills over, the poor, worse days, books. */
public final class EdgesBeside extends Edges {
    private static final int BIDDER = 0;
    private static final int[] NO_RUN = {0, -1, 41, MIN, MAX};

    private static Watched people(Watched x, int many) {
        for (int i = 0; i < many; i++) {
            x.person(BIDDER, 0, 0);
        }
        return x;
    }

    /** FORTUNE brings this one WEATHER alone. */
    private static Watched always(Watched x, int weather) {
        x.fortune(-1);
        x.fortune(weather);
        return x;
    }

    private static void beside() {
        sentence(16, "What the valley beside has comes to its row: how many (-1: it is empty then, 0). NONE; FULL: 20.");
        Watched x = fresh();
        due(x.beside(-1), 0);
        due(x.beside(4), NONE);
        due(x.beside(-2), NONE);
        due(x.beside(MIN), NONE);
        due(x.beside(MAX), NONE);
        due(x.count(3), 0);
        for (int i = 1; i <= 20; i++) {
            due(x.beside(i % 4), i);
            due(x.count(3), i);
        }
        due(x.beside(0), FULL);
        due(x.beside(3), FULL);
        due(x.beside(4), NONE);
        due(x.beside(-2), NONE);
        due(x.count(3), 20);
        due(x.beside(-1), 0);
        due(x.count(3), 0);
        due(x.beside(3), 1);
        due(x.beside(0), 2);
    }

    private static void spill() {
        sentence(17, "SPILL by n in RUN of m DAYS (1 .. 40). -10002: BAD.");
        Watched x = always(people(in("worth 3 w=2"), 1), 2);
        for (int m : NO_RUN) {
            due(x.spill(m, 0), FAR_BAD);
            due(x.spill(m, 99), FAR_BAD);
            due(x.spill(m, 100), FAR_BAD);
        }
        due(x.spill(1, 0), 3);
        due(x.spill(40, 0), 120);

        sentence(17, "SPILL by n (0 .. 99)");
        x.beside(2);
        for (int n : new int[] {-1, 100, MIN, MAX}) {
            due(x.spill(1, n), FAR_BAD);
            due(x.spill(40, n), FAR_BAD);
            due(x.spill(0, n), FAR_BAD);
        }
        due(x.spill(1, 0), 3);
        due(x.spill(1, 1), 4);
        due(x.spill(1, 99), 102);
        due(x.spill(40, 99), 219);

        sentence(17, "for DAYS from the one that comes on (behind its end none is told)");
        Watched y = always(people(fresh(), 1), 2);
        due(y.spill(40, 99), 0);
        for (int i = 0; i < 20; i++) {
            y.beside(2);
        }
        due(y.spill(19, 3), 57);
        due(y.spill(20, 3), 60);
        due(y.spill(21, 3), 60);
        due(y.spill(40, 3), 60);
        goDays(y, 7);
        due(y.spill(1, 3), 3);
        due(y.spill(40, 3), 60);
        due(y.beside(-1), 0);
        due(y.spill(40, 3), 0);
    }

    private static void spillToAll() {
        sentence(17, "n for each of the PEOPLE on each DAY of it for which that WEATHER is told that is SOLD");
        Watched x = always(people(fresh(), 8), 0);
        for (int i = 0; i < 20; i++) {
            x.beside(i == 10 ? 1 : 0);
        }
        due(x.spill(10, 99), 99 * 8 * 10);
        due(x.spill(11, 99), 99 * 8 * 10);
        due(x.spill(40, 99), 99 * 8 * 19);
        Watched nobody = always(fresh(), 0);
        nobody.beside(0);
        due(nobody.spill(40, 99), 0);
        Watched late = always(in("harm 2 d=2"), 3);
        goDays(late, 99);
        people(late, 1);
        late.beside(3);
        late.beside(3);
        // DAY 100 alone harms.
        due(late.spill(2, 5), 8);
    }

    private static void poor() {
        sentence(18, "POOR (what 0, as bits), EVEN (1) in n DAYS. NONE; BAD.");
        Watched x = always(people(in("worth 1 w=1&p=0"), 2), 1);
        for (int what : new int[] {-1, 2, 10, MIN, MAX}) {
            due(x.poor(1, what), NONE);
            due(x.poor(0, what), NONE);
            due(x.poor(41, what), NONE);
        }
        for (int n : NO_RUN) {
            due(x.poor(n, 0), BAD);
            due(x.poor(n, 1), BAD);
        }
        due(x.poor(1, 0), 2);
        due(x.poor(40, 0), 2);
        due(x.poor(1, 1), 1);
        due(x.poor(40, 1), 40);

        sentence(18, "PEOPLE to whom in RUN of n DAYS (1 .. 40) nothing SOLD has WORTH above 0, as bits");
        Watched all = people(in("harm 1 p=0;worth 1 p=3;worth 5 p=4;harm 5 p=4;worth 2 w=3&p=7"), 8);
        due(all.poor(1, 0), 255 - 8);
        due(all.poor(3, 0), 255 - 8);
        due(all.poor(4, 0), 255 - 8 - 128);
        due(all.poor(40, 0), 255 - 8 - 128);
        // One DAY is enough, whatever the others bring.
        Watched once = people(in("harm 5 w=0;worth 1 w=1"), 1);
        due(once.poor(1, 0), 1);
        due(once.poor(2, 0), 0);
        due(once.poor(5, 0), 0);
        due(people(fresh(), 8).poor(40, 0), 255);
        due(people(fresh(), 1).poor(1, 0), 1);
        due(fresh().poor(1, 0), 0);
    }

    private static void poorTillTheLastDay() {
        sentence(18, "RUN of n DAYS (1 .. 40)");
        // 3 comes on DAYS 3, 15, 27 and 39; of these DAY 39 alone is 4 modulo 7.
        Watched x = people(in("worth 1 w=3&d=4"), 1);
        x.fortune(-1);
        for (int i = 0; i < 12; i++) {
            x.fortune(i == 3 ? 3 : 0);
        }
        due(x.poor(39, 0), 1);
        due(x.poor(40, 0), 0);
        due(x.run(39, 1), 0);
        due(x.run(40, 1), 1);

        sentence(18, "the greatest less the least (0 without PEOPLE)");
        due(fresh().poor(1, 1), 0);
        due(fresh().poor(40, 1), 0);
        due(people(in("worth 9 w<9"), 1).poor(40, 1), 0);
        due(people(in("harm 9 w<9"), 2).poor(40, 1), 0);
        due(people(in("harm 9 w<9&p=0"), 2).poor(1, 1), 9);
        due(people(in("harm 9 p=0;worth 2 p=7;harm 5 p=3"), 8).poor(40, 1), 440);
        due(people(in("harm 9 p=0;harm 2 p=1"), 2).poor(1, 1), 7);
    }

    /** Who bids 1 for WEATHER 3 as soon as a gift has come, and one whom that harms; FORTUNE's 0 comes first. */
    private static Watched harmed() {
        return people(in("worth 1 w=3&p=0;harm 9 w=3&p=1;gift 1"), 2);
    }

    private static void worse() {
        sentence(19, "WORSE of n DAYS, as bits. BAD.");
        Watched x = harmed();
        for (int n : NO_RUN) {
            due(x.worse(n), BAD);
        }
        due(x.worse(1), 0);
        due(x.worse(2), 2);
        due(x.worse(31), (1L << 31) - 2);
        due(x.worse(32), (1L << 32) - 2);
        due(x.worse(33), (1L << 33) - 2);
        due(x.worse(40), (1L << 40) - 2);
        x.go();
        due(x.worse(40), (1L << 40) - 1);
        due(fresh().worse(40), 0);

        sentence(19, "is less than that of FORTUNE's next one on that DAY (as its turn is ahead of that EVENING), behind the same WEATHER");
        Watched equal = people(in("worth 1 w=3&p=0;harm 9 w=3&p=1;harm 8 w=1&p=1;gift 1"), 2);
        // FORTUNE's 1 is next behind its 0, and harms no less than 3.
        due(equal.worse(40), 0);
        equal.fortune(-1);
        equal.fortune(2);
        due(equal.worse(3), 6);
        due(always(harmed(), 3).worse(40), 0);
        Watched none = harmed();
        none.fortune(-1);
        due(none.worse(3), 6);
        // Nothing is worse than itself.
        due(people(in("harm 9 w=0"), 3).worse(40), 0);
    }

    private static void worseBehind() {
        sentence(19, "behind the same WEATHER, as bits");
        // 0 has worth behind 3 alone: on DAYS 0 and 1 it is no better than 3.
        Watched x = people(in("worth 1 w=3;worth 9 w=0&y=3&p=1;gift 1"), 1);
        x.person(6, 0, 0);
        always(x, 0);
        due(x.worse(1), 0);
        due(x.worse(2), 0);
        due(x.worse(4), 12);
    }

    private static void book() {
        sentence(20, "What was SOLD comes to the BOOK: how many (-1: it is empty then, 0). NONE; FULL: 12.");
        Watched x = fresh();
        due(x.book(-1), 0);
        due(x.book(4), NONE);
        due(x.book(-2), NONE);
        due(x.book(MIN), NONE);
        due(x.book(MAX), NONE);
        due(x.count(4), 0);
        for (int i = 1; i <= 12; i++) {
            due(x.book(i % 4), i);
            due(x.count(4), i);
        }
        due(x.book(0), FULL);
        due(x.book(3), FULL);
        due(x.book(4), NONE);
        due(x.book(-2), NONE);
        due(x.count(4), 12);
        due(x.book(-1), 0);
        due(x.count(4), 0);
        due(x.book(3), 1);
        due(x.book(0), 2);
    }

    private static void looked() {
        sentence(21, "LOOKED at; -5.");
        Watched x = fresh();
        due(x.looked(), -5);
        x.book(1);
        due(x.looked(), 0);
        x.book(-1);
        due(x.looked(), -5);

        sentence(21, "the first DAY (from 0) of RUN of as many DAYS on which something else is SOLD than is told (-5: none).");
        Watched y = fresh();
        for (int i = 0; i < 11; i++) {
            y.book(i % 4);
            due(y.looked(), -5);
        }
        y.book(0);
        due(y.looked(), 11);
        Watched z = fresh();
        for (int i = 0; i < 12; i++) {
            z.book(i % 4);
        }
        due(z.looked(), -5);
        due(z.book(0), FULL);
        due(z.looked(), -5);
        z.go();
        due(z.looked(), 0);
        goDays(z, 3);
        due(z.looked(), -5);
        Watched two = fresh();
        two.book(0);
        two.book(2);
        two.book(2);
        two.book(0);
        due(two.looked(), 1);
        Watched late = fresh();
        goDays(late, 99);
        for (int i = 3; i < 15; i++) {
            late.book(i == 14 ? 0 : i % 4);
        }
        due(late.looked(), 11);
    }

    private static void lookedAtBids() {
        sentence(21, "something else is SOLD than is told");
        // From DAY 1 on the gift of 1 buys 3.
        Watched x = people(in("worth 4 w=3;gift 1"), 1);
        int[] sold = {0, 3, 3, 3};
        for (int weather : sold) {
            x.book(weather);
        }
        due(x.looked(), -5);
        x.book(0);
        due(x.looked(), 4);
        due(x.told(2), 0);
        due(x.of(0, 2), 0);
    }

    public static void main(String[] args) {
        beside();
        spill();
        spillToAll();
        poor();
        poorTillTheLastDay();
        worse();
        worseBehind();
        book();
        looked();
        lookedAtBids();
        end(16, 21);
    }
}
