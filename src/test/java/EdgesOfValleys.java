/** The boundary cases of promises 1 to 5: a new object, the tape, valleys, what is told, fortune. */
public final class EdgesOfValleys extends Edges {
    /** 12 and 27 times 4 signs: just as many as THE TAPE takes. */
    private static final String LONGEST = "worth 1 !w=0" + "&w=1".repeat(27);
    private static final String LONG = "worth 12 w=10|!(y<3);harm 0 d>6&p=7;rule 2;gift 99";
    private static final String[] HEADS_THAT_ARE_VALLEYS = {
        "worth 12 w=1", "worth 12 w=10", "worth 12 w=10|!(y<3)", "worth 12 w=10|!(y<3);harm 0 d>6",
        "worth 12 w=10|!(y<3);harm 0 d>6&p=7", "worth 12 w=10|!(y<3);harm 0 d>6&p=7;rule 2",
        "worth 12 w=10|!(y<3);harm 0 d>6&p=7;rule 2;gift 9", LONG};

    private static String times(int many, String clause) {
        return clause + (";" + clause).repeat(many - 1);
    }

    private static void fault(String text, int place) {
        Watched x = fresh();
        due(read(x, text), -10 - place);
        due(x.count(5), 0);
        due(x.count(1), 0);
    }

    private static void taken(String text) {
        in(text);
    }

    private static void newObject() {
        sentence(1, "Nobody, no VALLEY.");
        Watched x = fresh();
        due(x.count(0), 0);
        due(x.count(1), 0);
        due(x.count(3), 0);
        due(x.count(4), 0);
        due(x.count(5), 0);
        due(x.count(6), 0);
        due(x.of(0, 0), FAR_NONE);
        due(x.row(0, 0, 0), NONE);
        due(x.harm(0), NONE);
        due(x.truly(0, 0), NONE);
        due(x.as(0, 0), NONE);
        due(x.sold(10), FAR_NONE);
        due(x.run(1, 10), FAR_NONE);
        due(x.undo(), STATE);

        sentence(1, "without one there are no CLAUSES");
        x = fresh();
        x.person(0, 0, 999);
        for (int w = 0; w < 4; w++) {
            due(x.of(0, 20 + w), 0);
            due(x.of(0, 10 + w), 0);
        }
        due(x.told(0), 0);
        due(x.told(1), 0);
        due(x.run(40, 1), 0);
        due(x.best(8, -1), 0);
        due(x.run(40, 10), 999);

        sentence(1, "DAYS 0 .. 99; the WEATHER of the DAY ahead (0 at first).");
        x = in("worth 5 y=0;worth 7 d=0;harm 1 y>0;harm 1 d>0");
        due(x.told(2), 0);
        due(x.told(3), 0);
        x.person(0, 0, 0);
        due(x.of(0, 23), 12);

        sentence(1, "0 1 2 3 at first) that come in turn when nobody bids, from its beginning on, and again behind its end.");
        x = fresh();
        due(x.count(2), 4);
        for (int i = 0; i < 9; i++) {
            due(x.told(4), i % 4);
            due(x.go(), i % 4);
        }
    }

    private static void objectsApart() {
        sentence(1, "Nobody, no VALLEY.");
        Watched x = in("gift 9");
        x.person(0, 0, 9);
        x.act(0, 2, 1);
        x.beside(1);
        x.book(1);
        x.fortune(1);
        x.feed('g');
        x.image();
        x.go();
        Watched other = fresh();
        int[] counts = {0, 0, 4, 0, 0, 0, 0};
        for (int what = 0; what < counts.length; what++) {
            due(other.count(what), counts[what]);
        }
        due(other.told(1), 0);
        due(other.told(2), 0);
        due(other.undo(), STATE);
        due(other.trace(0), NONE);
    }

    private static void feed() {
        sentence(2, "A sign (0 .. 127) comes behind THE TAPE's: how many it has.");
        Watched x = fresh();
        due(x.feed(0), 1);
        due(x.feed(127), 2);
        due(x.feed(-1), BAD);
        due(x.feed(128), BAD);
        due(x.feed(MIN), BAD);
        due(x.feed(MAX), BAD);
        // Cut to a byte, or to its lowest bits, these would be signs.
        due(x.feed(256 + 'g'), BAD);
        due(x.feed('g' - 256), BAD);
        due(x.count(5), 2);
        due(x.valley(), -10);
        due(x.feed('g'), 1);

        sentence(2, "bytes, 120 at most");
        x = fresh();
        for (int i = 1; i <= 120; i++) {
            due(x.feed(i), i);
        }
        due(x.feed(0), FULL);
        due(x.feed(127), FULL);
        due(x.count(5), 120);

        sentence(2, "BAD; FULL.");
        x = fresh();
        feedAll(x, LONGEST);
        due(x.feed(-1), BAD);
        due(x.feed(128), BAD);
        due(x.feed(' '), FULL);
        due(x.feed('1'), FULL);

        sentence(2, "They change nothing.");
        due(x.count(5), 120);
        due(x.valley(), 0);
        due(x.count(5), 0);
        due(x.feed('g'), 1);
        Watched y = fresh();
        feedAll(y, "gif");
        due(y.feed(128), BAD);
        due(y.feed(-1), BAD);
        due(y.feed('t'), 4);
        due(read(y, " 7"), 0);
        due(y.told(1), 7);
    }

    private static void endsTooEarly() {
        sentence(3, "(the size, if it ends too early)");
        fault("", 0);
        for (int size = 0; size <= LONG.length(); size++) {
            String head = LONG.substring(0, size);
            boolean valley = false;
            for (String text : HEADS_THAT_ARE_VALLEYS) {
                valley |= text.equals(head);
            }
            if (valley) {
                taken(head);
            } else {
                fault(head, size);
            }
        }
        // The greatest FAULT that there is.
        fault("worth 1 w=1" + "&w=1".repeat(27) + "&", 120);
        fault("worth 1 w=1" + "&w=1".repeat(27) + "|", 120);
        fault("worth 11 w=1" + "&w=1".repeat(26) + "&w=;", 119);
        fault("worth 11 w=1" + "&w=1".repeat(26) + "&!!!", 120);
        fault("worth 11 w=1" + "&w=1".repeat(26) + "&(((", 120);
    }

    private static void firstByte() {
        sentence(3, "FAULT: the place of the first byte with which no VALLEY can go on");
        for (int i = 0; i <= LONG.length(); i++) {
            String tail = i < LONG.length() ? LONG.substring(i + 1) : "";
            fault(LONG.substring(0, i) + "~" + tail, i);
            fault(LONG.substring(0, i) + (char) 0 + tail, i);
            fault(LONG.substring(0, i) + (char) 127 + "~" + tail, i);
        }
        fault("worth 1 w=1" + "&w=1".repeat(27) + "~", 119);
        fault("Worth 1 w=1", 0);
        fault("worth 1 W=1", 8);
        fault("tax 1", 0);
        fault("horm 1 w=1", 1);
        fault("gaft 1", 1);
        fault("rale 1", 1);
        fault("gifts 1", 4);
        fault("worth 1 v=1", 8);
        fault("worth 1 1=w", 8);
        fault("worth 1 w==1", 10);
        fault("worth 1 w<=1", 10);
        fault("worth 1 w;1", 9);
        fault("worth 1 w?1", 9);
        fault("worth 1 w=/", 10);
        fault("worth 1 w=:", 10);
        fault("worth 1 w=-1", 10);
        fault("worth 1 w=y", 10);
        fault("worth 1 w!=1", 9);
        fault("worth 1 w=1!", 11);
        fault("worth 1 w=1(", 11);
        fault("worth 1 w=1w=1", 11);
        fault("worth 1 &w=1", 8);
        fault("worth 1 |w=1", 8);
        fault("worth 1 w=1&|w=1", 12);
        fault("worth 1 w=1||w=1", 12);
        fault("worth 1 ()", 9);
        fault("worth 1 (w=1))", 13);
        fault("worth 1 w=1)", 11);
        fault("worth 1 (w=1;gift 1", 12);
        fault("worth 1 !)", 9);
        fault("worth 1 !&w=1", 9);
        fault("worth 1 (w=1)w=1", 13);
        fault("worth 1 (w=1)(w=1)", 13);
        fault("rule 1 w=1", 6);
        fault("gift 1 w=1", 6);
        fault("worth w=1", 6);
        fault("worth 1;gift 1", 7);
    }

    private static void blanks() {
        sentence(3, "(one blank ahead of each part behind the word;");
        fault(" gift 1", 0);
        fault("gift1", 4);
        fault("gift  1", 5);
        fault("gift\t1", 4);
        fault("gift 1 ", 6);
        fault("gift 1 ;gift 1", 6);
        fault("gift 1; gift 1", 7);
        fault("rule1", 4);
        fault("rule  1", 5);
        fault("rule 1 ", 6);
        fault("worth1 w=1", 5);
        fault("worth  1 w=1", 6);
        fault("worth 1w=1", 7);
        fault("worth 1  w=1", 8);
        fault("worth 1 w =1", 9);
        fault("worth 1 w= 1", 10);
        fault("worth 1 w=1 ", 11);
        fault("worth 1 w=1 |w=2", 11);
        fault("worth 1 w=1| w=2", 12);
        fault("worth 1 ( w=1)", 9);
        fault("worth 1 (w=1 )", 12);
        fault("worth 1 ! w=1", 9);
        fault("harm1 w=1", 4);
        fault("harm  1 w=1", 5);
        fault("harm 1w=1", 6);
        fault("harm 1  w=1", 7);
    }

    private static void semicolons() {
        sentence(3, "with ; between");
        fault(";", 0);
        fault(";gift 1", 0);
        fault("gift 1;", 7);
        fault("gift 1;;gift 1", 7);
        fault("gift 1,gift 1", 6);
        fault("gift 1gift 1", 6);
        taken("gift 1;gift 1");
    }

    private static void numbers() {
        sentence(3, "n 1 or 2 digits, no 0 ahead of another");
        String[] heads = {"worth ", "harm ", "gift ", "worth 1 w=", "harm 1 (y<", "worth 1 !k>"};
        String[] tails = {" w=0", " w=0", "", "", ")", ""};
        for (int i = 0; i < heads.length; i++) {
            int place = heads[i].length();
            for (String n : new String[] {"0", "1", "9", "10", "19", "90", "99"}) {
                taken(heads[i] + n + tails[i]);
            }
            for (String n : new String[] {"00", "01", "09"}) {
                fault(heads[i] + n + tails[i], place + 1);
            }
            for (String n : new String[] {"100", "990", "999"}) {
                fault(heads[i] + n + tails[i], place + 2);
            }
            // The signs beside the digits are none.
            for (String n : new String[] {"1/", "1:", "9x"}) {
                fault(heads[i] + n + tails[i], place + 1);
            }
            for (String n : new String[] {"/", ":", "-1", "+1", "x"}) {
                fault(heads[i] + n + tails[i], place);
            }
        }
        for (int n : new int[] {0, 9, 10, 99}) {
            Watched x = in("worth " + n + " w=0;harm " + n + " w=1;gift " + n);
            x.person(0, 0, 0);
            due(x.of(0, 20), n);
            due(x.of(0, 21), -n);
            due(x.told(1), n);
        }
    }

    private static void rules() {
        sentence(3, "of rule one digit 0 .. 2");
        for (int rule = 0; rule <= 2; rule++) {
            due(in("rule " + rule).told(0), rule);
        }
        fault("rule 3", 5);
        fault("rule 9", 5);
        fault("rule /", 5);
        fault("rule -1", 5);
        fault("rule 00", 6);
        fault("rule 01", 6);
        fault("rule 10", 6);
        fault("rule 22", 6);
        fault("rule ;", 5);
    }

    private static void clauses() {
        sentence(3, "CLAUSES, 10 at most");
        due(in(times(9, "gift 1") + ";gift 2").told(1), 2);
        taken(times(9, "gift 1"));
        fault(times(9, "gift 1") + ";", 63);
        fault(times(10, "gift 1") + ";", 69);
        fault(times(11, "gift 1"), 69);
        fault(times(10, "rule 1") + ";rule 1", 69);
        fault(times(10, "gift 1") + "~", 69);
        // 10 times 11, and 9 between: 119 signs.
        Watched x = in(times(10, "worth 9 w=1"));
        x.person(0, 0, 999);
        due(x.of(0, 21), 90);
        fault(times(10, "worth 9 w=1") + ";", 119);
        fault(times(10, "harm 9 w=1") + ";", 109);
        String mixed = "rule 1;gift 1;worth 1 w=0;harm 1 w=1;rule 0;gift 2;worth 2 w=0;harm 2 w=1;rule 2;gift 3";
        Watched y = in(mixed);
        y.person(0, 0, 0);
        due(y.of(0, 20), 3);
        due(y.of(0, 21), -3);
        due(y.told(0), 2);
        due(y.told(1), 3);
        fault(mixed + ";gift 4", mixed.length());
    }

    private static void open() {
        sentence(3, "At most 5 of ! and ( are open");
        taken("worth 1 !!!!!w=1");
        fault("worth 1 !!!!!!w=1", 13);
        taken("worth 1 (((((w=1)))))");
        fault("worth 1 ((((((w=1))))))", 13);
        taken("worth 1 !(!(!w=1))");
        fault("worth 1 !(!(!(w=1)))", 13);
        taken("worth 1 (!(!(w=1)))");
        fault("worth 1 (!(!(!w=1)))", 13);
        fault("worth 1 (((((!w=1)))))", 13);
        fault("worth 1 !!!!!(w=1)", 13);
        taken("worth 1 ((((!w=1))))");
        taken("worth 1 !!!!(w=1)");

        sentence(3, "(a ( till its ) , a ! till its F ends)");
        taken("worth 1 (((((w=1)))))|(((((w=1)))))");
        taken("worth 1 !!!!!w=1&!!!!!w=1|!!!!!w=10");
        taken("worth 1 !w=1&(((((w=1)))))");
        taken("worth 1 !(w=1)&(((((w=1)))))");
        taken("worth 1 !!(w=1)|!!!!!w=1");
        taken("worth 1 (((((w=1)|w=2))|(w=3)))");
        taken("worth 1 (!w=1&((((w=1)))))");
        fault("worth 1 (!w=1&(((((w=1))))))", 18);
        taken("worth 1 !(w=1&(((w=1))))");
        fault("worth 1 !(w=1&((((w=1)))))", 17);
        fault("worth 1 ((w=1)|(((((w=1))))))", 19);
        fault("worth 1 (((((w=1)))))|((((((w=1))))))", 27);
        taken("worth 1 (((((w=1)))));harm 1 (((((w=1)))));harm 1 !!!!!w=1");
    }

    private static void longest() {
        sentence(3, "A VALLEY is read from THE TAPE (bytes, 120 at most)");
        Watched x = in(LONGEST);
        x.person(0, 0, 0);
        due(x.of(0, 21), 1);
        due(x.of(0, 20), 0);
        due(x.of(0, 22), 0);
        Watched y = in("worth 2 !w=2" + "|w=2".repeat(27));
        y.person(0, 0, 0);
        due(y.of(0, 22), 2);
        Watched z = in("worth 9 w<9&" + "(w=2|w=1)&".repeat(10) + "w=1&!w=3");
        z.person(0, 0, 0);
        due(z.of(0, 21), 9);
        due(z.of(0, 22), 0);
    }

    private static void longestAgain() {
        sentence(3, "the newest one holds");
        Watched x = fresh();
        x.person(0, 0, 0);
        for (int i = 0; i < 3; i++) {
            due(read(x, LONGEST), i);
            due(x.of(0, 21), 1);
        }
    }

    private static void fiveValleys() {
        sentence(3, "VALLEYS are numbered from 0 on, 5 at most; the newest one holds");
        Watched x = fresh();
        for (int i = 0; i < 5; i++) {
            due(x.count(1), i);
            due(read(x, "gift 1" + i), i);
            due(x.told(1), 10 + i);
        }
        due(x.count(1), 5);

        sentence(3, "FULL (THE TAPE stays).");
        due(x.valley(), FULL);
        due(read(x, "gift 77"), FULL);
        due(x.count(5), 7);
        due(x.valley(), FULL);
        due(x.count(5), 7);
        due(x.feed('~'), 8);
        due(x.valley(), FULL);
        due(x.count(5), 8);
        due(x.count(1), 5);
        due(x.told(1), 14);
        Watched y = fresh();
        for (int i = 0; i < 5; i++) {
            due(read(y, "rule 1"), i);
        }
        for (int i = 1; i <= 120; i++) {
            y.feed('g');
        }
        due(y.valley(), FULL);
        due(y.feed('g'), FULL);
        due(y.count(5), 120);
    }

    private static void faultChangesNothingElse() {
        sentence(3, "-10 less the FAULT (the one that held holds).");
        Watched x = in("gift 9;rule 1;worth 3 w=2");
        x.person(0, 0, 5);
        due(read(x, "gift 8;rule 2;worth 4 w=2;gift 100"), -10 - 33);
        due(x.told(1), 9);
        due(x.told(0), 1);
        due(x.of(0, 22), 3);
        due(x.count(1), 1);
        due(x.count(5), 0);
        due(x.valley(), -10);
        due(x.told(1), 9);
        due(read(x, "gift 7"), 1);
        due(x.told(1), 7);
        due(x.of(0, 22), 0);

        sentence(3, "THE TAPE, which is empty then, is a VALLEY, and holds: its number");
        Watched y = fresh();
        due(read(y, "gift"), -14);
        due(read(y, " 5"), -10);
        due(read(y, "gift 5"), 0);
        due(read(y, "0"), -10);
        due(y.told(1), 5);
        due(y.count(5), 0);
    }

    private static void ruleAndGift() {
        sentence(3, "rule (0 without), gift (0 without; what comes to each purse in the evening): the last n.");
        Watched x = in("rule 2;gift 9;gift 0;rule 0");
        due(x.told(0), 0);
        due(x.told(1), 0);
        due(read(x, "rule 1;gift 99"), 1);
        due(x.told(0), 1);
        due(x.told(1), 99);
        due(read(x, "gift 4"), 2);
        due(x.told(0), 0);
        due(x.told(1), 4);
        due(read(x, "rule 2"), 3);
        due(x.told(0), 2);
        due(x.told(1), 0);
        due(read(x, "worth 1 w=1"), 4);
        due(x.told(0), 0);
        due(x.told(1), 0);
    }

    private static void worths() {
        sentence(3, "less those of all harm, together (may be below 0)");
        Watched x = in(times(10, "harm 99 w=1"));
        x.person(0, 0, 999);
        due(x.of(0, 21), -990);
        due(x.of(0, 20), 0);
        Watched y = in(times(9, "worth 99 w=1"));
        y.person(0, 0, 999);
        due(y.of(0, 21), 891);
        Watched z = in("worth 99 w=1;harm 99 w=1;harm 1 w>1;worth 0 w=0;harm 0 w=0");
        z.person(0, 0, 999);
        due(z.of(0, 20), 0);
        due(z.of(0, 21), 0);
        due(z.of(0, 22), -1);
    }

    /** Below, at and above a number 1, 2 and 4. */
    private static String around(char letter, int n) {
        return "worth 1 " + letter + "<" + n + ";worth 2 " + letter + "=" + n + ";worth 4 " + letter + ">" + n;
    }

    private static void tests() {
        sentence(3, "a TEST: w or y or d or p or k, one of < = >, a number likewise");
        Watched w = in(around('w', 2));
        w.person(0, 0, 0);
        int[] byWeather = {1, 1, 2, 4};
        for (int i = 0; i < 4; i++) {
            due(w.of(0, 20 + i), byWeather[i]);
        }
        Watched p = in(around('p', 6));
        for (int i = 0; i < 8; i++) {
            p.person(0, 0, 0);
            due(p.of(i, 20), i < 6 ? 1 : i == 6 ? 2 : 4);
        }
        Watched k = in(around('k', 5));
        for (int i = 0; i < 7; i++) {
            int kind = 6 - i;
            k.person(kind, 0, 0);
            due(k.of(i, 20), kind < 5 ? 1 : kind == 5 ? 2 : 4);
        }
        Watched wide = in("worth 1 w<99;worth 2 w>99;worth 4 w=99;worth 8 w<0;worth 16 w>0;worth 32 w=0");
        wide.person(0, 0, 0);
        due(wide.of(0, 20), 33);
        due(wide.of(0, 23), 17);

        sentence(3, "y that of the DAY ahead");
        Watched y = in(around('y', 2));
        y.person(0, 0, 0);
        int[] byDayAhead = {1, 1, 1, 2, 4, 1};
        for (int want : byDayAhead) {
            due(y.of(0, 20), want);
            y.go();
        }

        sentence(3, "d the DAY modulo 7");
        Watched d = in(around('d', 5));
        d.person(0, 0, 0);
        for (int i = 0; i < 99; i++) {
            if (i < 15 || i > 90) {
                due(d.of(0, 20), i % 7 < 5 ? 1 : i % 7 == 5 ? 2 : 4);
            }
            d.go();
        }
        due(d.of(0, 20), 1);
        due(read(d, around('d', 1)), 1);
        // 99 is 14 times 7, and 1.
        due(d.of(0, 20), 2);
    }

    private static void holdsIs(String e, int bits) {
        Watched x = in("worth 1 " + e);
        x.person(0, 0, 0);
        for (int w = 0; w < 4; w++) {
            due(x.of(0, 20 + w), bits >> w & 1);
        }
    }

    private static void expressions() {
        sentence(3, "E: T, or T|E. T: F, or F&T. F: !F, (E), or a TEST");
        holdsIs("w=0|w=1&w=2", 1);
        holdsIs("w=1&w=2|w=0", 1);
        holdsIs("(w=0|w=1)&w=1", 2);
        holdsIs("w=1&(w=0|w=1)", 2);
        holdsIs("!w=0&w=1", 2);
        holdsIs("!(w=0&w=1)", 15);
        holdsIs("!w=0|w=0", 15);
        holdsIs("!(w=0|w=1)", 12);
        holdsIs("!!!w=2", 11);
        holdsIs("w=0|w=1|w=2|w=3", 15);
        holdsIs("w<3&w>0&w<2", 2);
        holdsIs("w<3&w>0|w=3", 14);
        holdsIs("w=1&!w<0", 2);
        holdsIs("!w<0&w=1|w<0", 2);
        holdsIs("(((((w=0)|w=3)&w>0)|w=1)&w<9)", 10);
    }

    private static void told() {
        sentence(4, "What 0 rule, 1 gift, 2 the DAY that comes, 3 the WEATHER ahead of it, 4 FORTUNE's next one. NONE.");
        Watched x = in("rule 1;gift 6");
        goDays(x, 3);
        int[] want = {1, 6, 3, 2, 3};
        for (int what = 0; what < want.length; what++) {
            due(x.told(what), want[what]);
        }
        for (int what : new int[] {-1, 5, 10, MIN, MAX}) {
            due(x.told(what), NONE);
        }

        sentence(4, "DAYS 0 .. 99");
        Watched y = fresh();
        due(y.told(2), 0);
        goDays(y, 98);
        due(y.told(2), 98);
        y.go();
        due(y.told(2), 99);
        y.go();
        due(y.told(2), 99);
        // 98 is a multiple of 4, and 2.
        due(y.told(3), 2);
        due(y.told(4), 3);
    }

    private static void fortune() {
        sentence(5, "A WEATHER comes to FORTUNE, behind the others");
        Watched x = fresh();
        due(x.fortune(-2), NONE);
        due(x.fortune(4), NONE);
        due(x.fortune(MIN), NONE);
        due(x.fortune(MAX), NONE);
        due(x.count(2), 4);
        due(x.fortune(0), 5);
        due(x.fortune(3), 6);
        int[] come = {0, 1, 2, 3, 0, 3, 0, 1};
        for (int weather : come) {
            due(x.go(), weather);
        }

        sentence(5, "NONE; FULL: 12.");
        Watched y = fresh();
        for (int i = 5; i <= 12; i++) {
            due(y.fortune(i % 3), i);
        }
        due(y.fortune(0), FULL);
        due(y.fortune(3), FULL);
        due(y.fortune(4), NONE);
        due(y.fortune(-2), NONE);
        due(y.count(2), 12);
        int[] twelve = {0, 1, 2, 3, 2, 0, 1, 2, 0, 1, 2, 0, 0, 1};
        for (int weather : twelve) {
            due(y.go(), weather);
        }

        sentence(5, "(-1: FORTUNE has none then): how many there are.");
        due(y.fortune(-1), 0);
        due(y.count(2), 0);
        due(y.fortune(-1), 0);
        due(y.fortune(3), 1);
        due(y.go(), 3);
        due(y.go(), 3);
    }

    private static void fortuneTurns() {
        sentence(5, "FORTUNE's turn begins anew with each call that is not refused.");
        Watched x = fresh();
        goDays(x, 2);
        due(x.fortune(4), NONE);
        due(x.fortune(-2), NONE);
        due(x.told(4), 2);
        due(x.fortune(1), 5);
        due(x.told(4), 0);
        goDays(x, 4);
        due(x.told(4), 1);
        due(x.fortune(1), 6);
        due(x.told(4), 0);
        for (int i = 7; i <= 12; i++) {
            x.fortune(1);
        }
        goDays(x, 3);
        due(x.fortune(1), FULL);
        due(x.told(4), 3);
        due(x.fortune(-1), 0);
        due(x.fortune(2), 1);
        due(x.fortune(3), 2);
        due(x.go(), 2);
        due(x.told(4), 3);

        sentence(5, "Without any it brings WEATHER 0.");
        Watched y = in("worth 5 y=3");
        y.person(0, 0, 0);
        goDays(y, 4);
        due(y.fortune(-1), 0);
        due(y.told(4), 0);
        due(y.sold(0), 0);
        due(y.run(40, 0), 0);
        due(y.go(), 0);
        due(y.go(), 0);
        due(y.told(3), 0);
        due(y.worse(40), 0);
        due(y.fortune(1), 1);
        due(y.told(4), 1);
        due(y.fortune(-1), 0);
        due(y.told(4), 0);
        due(y.run(1, 0), 0);
        due(y.go(), 0);
    }

    public static void main(String[] args) {
        newObject();
        objectsApart();
        feed();
        endsTooEarly();
        firstByte();
        blanks();
        semicolons();
        numbers();
        rules();
        clauses();
        open();
        longest();
        longestAgain();
        fiveValleys();
        faultChangesNothingElse();
        ruleAndGift();
        worths();
        tests();
        expressions();
        told();
        fortune();
        fortuneTurns();
        end(1, 5);
    }
}
