/** The boundary cases of promises 22 to 27: acts, their trace, kinds, the image, counts. */
public final class EdgesOfActs extends Edges {
    private static final int BIDS = 0, PAYS = 1, TELLS = 2;
    private static final int[] OUTSIDE = {-1, 8, MIN, MAX};

    /** One of each KIND, by its number, and one more BIDDER; v is 9 for all. */
    private static Watched eight() {
        Watched x = fresh();
        for (int i = 0; i < 8; i++) {
            x.person(i % 7, 9, 10 * i);
        }
        return x;
    }

    private static void traced(Watched x, int... bodies) {
        due(x.count(6), bodies.length);
        for (int i = 0; i < bodies.length; i++) {
            due(x.trace(i), bodies[i]);
        }
        due(x.trace(bodies.length), NONE);
    }

    private static void wraps() {
        sentence(22, "ACTS of one of the PEOPLE with x (ints, wrapping)");
        Watched x = eight();
        due(x.act(7, BIDS, MAX), MIN + 6);
        due(x.act(0, BIDS, MIN), MIN);
        due(x.act(0, PAYS, MIN), MAX - 8);
        due(x.act(0, TELLS, (1 << 30) + 9), MIN);
        due(x.act(0, TELLS, MAX), -20);
        // Three times MAX is MAX less 2, three times MIN is MIN.
        due(x.act(1, BIDS, MAX), MAX - 1);
        due(x.act(1, BIDS, MIN), MIN + 1);
        due(x.act(1, PAYS, MIN), MAX - 7);
        due(x.act(2, PAYS, MIN + 7), MIN);
        due(x.act(2, TELLS, MIN + 7), 0);
        // Twice MAX less 6 is -14.
        due(x.act(3, TELLS, MAX), -11);
        // MAX three times, and 4, less 9, is MAX less 7; twice that -16; 10 more.
        due(x.act(4, TELLS, MIN), -6);
        due(x.act(5, BIDS, MAX), MIN + 1);
        due(x.act(5, PAYS, MAX), MIN + 8);
        due(x.act(6, PAYS, MIN + 3), MIN + 9);
        due(x.act(6, TELLS, MIN + 3), 18);
    }

    private static void noSuchAct() {
        sentence(22, "0, and no TRACE then: no such one, act.");
        Watched x = eight();
        for (int act : new int[] {-1, 3, 10, MIN, MAX}) {
            due(x.act(4, TELLS, 5), 24);
            due(x.count(6), 7);
            due(x.act(4, act, 5), 0);
            traced(x);
        }
        for (int nobody : OUTSIDE) {
            due(x.act(4, TELLS, 5), 24);
            due(x.act(nobody, BIDS, 5), 0);
            traced(x);
            x.act(4, TELLS, 5);
            due(x.act(nobody, 3, 5), 0);
            traced(x);
        }
        due(x.act(7, BIDS, 5), 12);
        traced(x, 1);
        Watched none = fresh();
        due(none.act(0, BIDS, 5), 0);
        traced(none);
    }

    private static void bodies() {
        sentence(22, "bids(..) and so on: the body of its KIND, or, if that has none, of the next KIND above that has one");
        int[][][] all = {
            {{1}, {2, 1}, {3, 2, 1}},
            {{11, 1}, {2, 11, 1}, {3, 2, 11, 1}},
            {{1}, {21, 2, 1}, {3, 21, 2, 1}},
            {{1}, {2, 1}, {31, 3, 2, 1}},
            {{11, 1}, {2, 11, 1}, {41, 3, 2, 11, 1, 11, 1}},
            {{51, 1}, {21, 2, 51, 1}, {3, 21, 2, 51, 1}},
            {{1}, {61, 21, 2, 1}, {3, 61, 21, 2, 1}}};
        for (int kind = 0; kind < 7; kind++) {
            Watched x = eight();
            for (int act = 0; act < 3; act++) {
                x.act(kind, act, 5);
                traced(x, all[kind][act]);
            }
        }
    }

    private static void answers() {
        sentence(22, "An ACT (0 bids, 1 pays, 2 tells) of one of the PEOPLE with x.");
        // x 5, v 9; by KIND, which is the number too.
        int[][] all = {{5, -4, -8}, {16, 7, 14}, {7, 2, 4}, {8, -1, -2 ^ 7}, {19, 10, 2 * (16 - 9) + 10},
            {10 ^ 5, -6, -12}, {11, 7, 14}};
        Watched x = eight();
        for (int kind = 0; kind < 7; kind++) {
            for (int act = 0; act < 3; act++) {
                due(x.act(kind, act, 5), all[kind][act]);
            }
        }
    }

    private static void trace() {
        sentence(23, "THE TRACE's i-th body. NONE.");
        Watched x = eight();
        due(x.trace(0), NONE);
        due(x.trace(-1), NONE);
        x.act(4, TELLS, 0);
        due(x.trace(0), 41);
        due(x.trace(6), 1);
        for (int i : new int[] {-1, 7, 19, 20, 21, 100, MIN, MAX}) {
            due(x.trace(i), NONE);
        }

        sentence(23, "the numbers of the bodies that ran in the latest act(), as they began; the first 20 are kept.");
        x.act(2, PAYS, 0);
        traced(x, 21, 2, 1);
        x.act(0, BIDS, 0);
        traced(x, 1);
        due(x.trace(1), NONE);
        x.go();
        x.fortune(2);
        x.feed('g');
        traced(x, 1);
    }

    private static void as() {
        sentence(24, "One of the PEOPLE taken for a KIND k (0 .. 6), or one under that: its v. NONE: person, k; -6: it is of another KIND.");
        String[] under = {"0", "01", "02", "03", "014", "025", "026"};
        Watched x = fresh();
        for (int kind = 0; kind < 7; kind++) {
            due(x.as(kind, 0), NONE);
            x.person(kind, kind + 3, 0);
        }
        for (int kind = 0; kind < 7; kind++) {
            for (int k = 0; k < 7; k++) {
                due(x.as(kind, k), under[kind].indexOf('0' + k) >= 0 ? kind + 3 : -6);
            }
            due(x.as(kind, -1), NONE);
            due(x.as(kind, 7), NONE);
        }
        due(x.as(0, MIN), NONE);
        due(x.as(0, MAX), NONE);
        for (int nobody : new int[] {-1, 7, 8, MIN, MAX}) {
            due(x.as(nobody, 0), NONE);
            due(x.as(nobody, 7), NONE);
            due(x.as(nobody, -1), NONE);
        }
        Watched edges = fresh();
        edges.person(0, 0, 0);
        edges.person(0, 9, 0);
        due(edges.as(0, 0), 0);
        due(edges.as(1, 0), 9);
    }

    private static void image() {
        sentence(25, "THE IMAGE is taken: how many PEOPLE there are.");
        Watched x = fresh();
        due(x.image(), 0);
        for (int i = 1; i <= 8; i++) {
            x.person(0, 0, i);
            due(x.image(), i);
        }
        x.person(0, 0, 9);
        due(x.undo(), 8);
        due(x.of(7, 2), 8);

        sentence(25, "THE IMAGE: all that there is (but THE IMAGE and THE TRACE).");
        Watched y = eight();
        due(y.image(), 8);
        y.go();
        due(y.image(), 8);
        y.go();
        due(y.undo(), 8);
        due(y.told(2), 1);
        due(y.undo(), 8);
        due(y.told(2), 1);
        y.act(4, TELLS, 1);
        y.image();
        y.act(0, PAYS, 1);
        y.undo();
        traced(y, 2, 1);
        y.act(0, 3, 1);
        y.undo();
        traced(y);
    }

    private static void undo() {
        sentence(26, "STATE: there is none.");
        Watched x = in("gift 4");
        x.person(6, 3, 50);
        x.feed('g');
        x.go();
        due(x.undo(), STATE);
        due(x.count(0), 1);
        due(x.told(2), 1);
        due(x.count(5), 1);
        due(x.image(), 1);
        due(x.undo(), 1);

        sentence(26, "All is as THE IMAGE: how many PEOPLE.");
        Watched y = fresh();
        y.image();
        read(y, "gift 4;rule 1;worth 5 w=1");
        for (int i = 0; i < 8; i++) {
            y.person(6, 3, 50);
            y.row(i, 2, 9);
        }
        y.fortune(3);
        y.beside(1);
        y.book(1);
        y.feed('g');
        y.go();
        due(y.undo(), 0);
        int[] counts = {0, 0, 4, 0, 0, 0, 0};
        for (int what = 0; what < counts.length; what++) {
            due(y.count(what), counts[what]);
        }
        for (int what = 0; what < 5; what++) {
            due(y.told(what), 0);
        }
        due(y.of(0, 0), FAR_NONE);
        due(read(y, "gift 5"), 0);
        due(y.person(6, 1, 60), 0);
        due(y.row(0, 2, 1), 0);
        due(y.undo(), 0);
    }

    private static void undoOfFullOnes() {
        sentence(26, "All is as THE IMAGE");
        Watched x = fresh();
        for (int i = 0; i < 5; i++) {
            due(read(x, "rule 1"), i);
        }
        for (int i = 0; i < 8; i++) {
            due(x.person(6, 9, 999 - i), i);
        }
        goDays(x, 99);
        due(x.image(), 8);
        due(x.go(), STATE);
        due(x.person(0, 0, 0), FULL);
        due(x.valley(), FULL);
        x.row(7, 3, 99);
        due(x.undo(), 8);
        due(x.told(2), 99);
        due(x.told(0), 1);
        due(x.count(1), 5);
        due(x.of(7, 2), 992);
        due(x.row(7, 3, 0), 0);
        due(x.go(), STATE);
        due(x.valley(), FULL);
        due(x.person(0, 0, 0), FULL);

        Watched y = fresh();
        for (int i = 5; i <= 12; i++) {
            y.fortune(i % 4);
        }
        for (int i = 0; i < 20; i++) {
            y.beside(i % 4);
        }
        for (int i = 0; i < 12; i++) {
            y.book(i % 4);
        }
        feedAll(y, "gift 5" + ";gift 6".repeat(9) + "~".repeat(51));
        due(y.image(), 0);
        y.fortune(-1);
        y.beside(-1);
        y.book(-1);
        due(y.valley(), -79);
        due(y.undo(), 0);
        due(y.fortune(0), FULL);
        due(y.beside(0), FULL);
        due(y.book(0), FULL);
        due(y.feed(0), FULL);
        // 5 modulo 4 is FORTUNE's fifth, 0 the BOOK's.
        due(y.looked(), 4);
        due(y.count(5), 120);
        due(y.valley(), -79);
    }

    private static void imageStaysApart() {
        sentence(26, "All is as THE IMAGE");
        Watched x = in("worth 9 w=1&p=0;gift 2");
        x.person(6, 0, 50);
        x.row(0, 3, 5);
        x.fortune(-1);
        x.fortune(2);
        x.fortune(1);
        x.beside(3);
        x.book(3);
        x.go();
        feedAll(x, "gift 3");
        x.image();
        for (int again = 0; again < 3; again++) {
            due(x.undo(), 1);
            due(x.of(0, 2), 47);
            due(x.told(2), 1);
            due(x.told(3), 3);
            due(x.spill(1, 7), 7);
            due(x.looked(), -5);
            due(x.row(0, 3, 40 + again), 5);
            due(x.row(0, 0, 1), 0);
            due(x.told(4), 2);
            due(x.told(1), 2);
            due(x.go(), 3);
            due(x.fortune(0), 3);
            x.beside(-1);
            x.beside(0);
            x.book(-1);
            x.book(0);
            due(x.valley(), 1);
            due(x.told(1), 3);
            feedAll(x, "rule 2");
            due(x.person(5, 5, 5), 1);
        }
        due(x.image(), 2);
        due(x.undo(), 2);
        due(x.of(1, 1), 5);
    }

    private static void turnOfTheImage() {
        sentence(26, "All is as THE IMAGE");
        Watched x = fresh();
        goDays(x, 2);
        x.image();
        goDays(x, 3);
        x.undo();
        due(x.told(4), 2);
        due(x.go(), 2);
        due(x.go(), 3);
        x.fortune(1);
        x.undo();
        due(x.told(4), 2);
        due(x.told(3), 1);
        due(x.count(2), 4);
        x.fortune(-1);
        for (int i = 0; i < 5; i++) {
            x.fortune(i == 2 ? 1 : 3);
        }
        x.undo();
        due(x.count(2), 4);
        for (int i = 2; i < 8; i++) {
            due(x.go(), i % 4);
        }
    }

    private static void count() {
        sentence(27, "5 bytes of THE TAPE, 6 bodies that ran in the latest act(). NONE.");
        Watched x = fresh();
        for (int what : new int[] {-1, 7, 10, MIN, MAX}) {
            due(x.count(what), NONE);
        }
        int[] none = {0, 0, 4, 0, 0, 0, 0};
        for (int what = 0; what < none.length; what++) {
            due(x.count(what), none[what]);
        }
        for (int i = 0; i < 5; i++) {
            read(x, "rule 1");
        }
        for (int i = 0; i < 9; i++) {
            x.person(4, 0, 0);
            x.fortune(1);
        }
        for (int i = 0; i < 21; i++) {
            x.beside(1);
            x.book(1);
        }
        feedAll(x, "~".repeat(121));
        x.act(7, TELLS, 0);
        int[] full = {8, 5, 12, 20, 12, 120, 7};
        for (int what = 0; what < full.length; what++) {
            due(x.count(what), full[what]);
        }
    }

    public static void main(String[] args) {
        wraps();
        noSuchAct();
        bodies();
        answers();
        trace();
        as();
        image();
        undo();
        undoOfFullOnes();
        imageStaysApart();
        turnOfTheImage();
        count();
        end(22, 27);
    }
}
