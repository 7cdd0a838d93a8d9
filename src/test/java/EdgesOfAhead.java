/** Terms 3 but what is SEEN, and promises 16 to 27, 32 and 33: hours to come, lots, lending, turns, odds, chances. */
final class EdgesOfAhead {
    private static final String TERMS = "Terms 3";
    private static final WeedStrand NOTHING = new WeedStrand();
    private static final String SHORE = "stripe 20;croft a 1 0 0;field a 9 0;tide 1;heap 3;";
    private static final String GALES = "stripe 0;stripe 0;croft a 1 0 0;croft b 1 0 7;croft c 1 0 8;field a 9 0;field b 9 0;field c 9 0;"
        + "gale 100 50;";

    private final Edges e;

    EdgesOfAhead(Edges edges) {
        e = edges;
    }

    void all() {
        withoutGales();
        byARule();
        bestRule();
        actsOfOne();
        othersAsTheyAre();
        firstActs();
        coming();
        fourHours();
        aRest();
        orderOfRests();
        unlikeLots();
        aSwap();
        swapLessThanNow();
        firstSwap();
        aLending();
        noLessThanNothing();
        price();
        aTurn();
        leastUnlikeTurn();
        firstTurn();
        oddsOfAGale();
        triedWays();
        table();
        tableNone();
        best();
        bestNone();
        plan();
        planNone();
        planned();
        plannedTooMany();
        plannedNone();
        rests();
        restsNone();
        rest();
        restTooMany();
        restNone();
        unlike();
        swap();
        noSwap();
        swapNone();
        lending();
        lendingNone();
        turns();
        turnsNone();
        turn();
        turnTooMany();
        turnNone();
        odds();
        oddsNone();
        chance();
        chanceNone();
        tried();
        triedNone();
    }

    // ---- as it goes

    private void withoutGales() {
        e.by(TERMS, "AS IT GOES: HOURS to come without GALES.");
        WeedStrand x = Due.strand(GALES);
        for (int rule = 0; rule < 3; rule++) {
            for (int what = 0; what < 4; what++) {
                e.is("table(" + rule + ", 9, " + what + ")", x.table(rule, 9, what), 0);
            }
        }
        e.is("plan", x.plan(0, 6), 0);
        e.is("rests", x.rests(1, 2, 1), 16);
        e.is("rests", x.rests(1, 2, 9), 16);
        for (int what = 0; what < 2; what++) {
            e.is("lending", x.lending(0, 1, 9, what), 0);
            e.is("lending", x.lending(1, 2, 99, what), 0);
        }
        e.is("turns", x.turns(4), 0);
        for (int what = 0; what < 5; what++) {
            e.is("tried", x.tried(what, 0, 9), 0);
        }
        x.see(9, 1, true);
        e.is("came", x.came(0), 0);
        e.lies("nothing came", x, 0, 0);
        WeedStrand y = Due.strand(GALES.replace("100", "50"));
        WeedStrand z = Due.strand(GALES.replace("100", "50"));
        for (int hour = 0; hour < 6; hour++) {
            y.go(1);
            z.go(1);
            e.is("its own numbers go on", y.count(6), z.count(6));
            y.table(0, 9, 0);
            y.best(9);
            y.plan(0, 2);
            y.rests(1, 2, 9);
            y.rest(1, 2, 9, 0);
            y.lending(0, 1, 9, 0);
            y.turns(2);
            y.came(0);
            y.tried(0, 0, 9);
            y.chance(1, 9, 0, 1);
            e.is("no hour goes by", y.count(5), hour + 1);
        }
    }

    private void tableIs(String when, WeedStrand x, int rule, int n, int... want) {
        for (int what = 0; what < want.length; what++) {
            e.is("table(" + rule + ", " + n + ", " + what + ") " + when, x.table(rule, n, what), want[what]);
        }
    }

    private void byARule() {
        e.by(TERMS, "By a RULE for n HOURS: all with ACT 0 and that rule, as it goes: how much FIELDS GOT more, how much went to the SEA more, the HEAP then, GAINS more.");
        WeedStrand x = Due.strand(SHORE);
        for (int rule = 0; rule < 2; rule++) {
            tableIs("at first", x, rule, 0, 0, 0, 3, 0);
            tableIs("at first", x, rule, 1, 5, 0, 3, 45);
            tableIs("at first", x, rule, 2, 10, 5, 3, 65);
        }
        tableIs("at first", x, 2, 1, 0, 0, 11, 0);
        tableIs("at first", x, 2, 2, 0, 2, 19, 0);
        tableIs("at first", x, 2, 3, 0, 2, 21, 0);
        tableIs("at first", x, 2, 4, 5, 2, 16, 45);
        x.act(0, 3);
        x.rule(2);
        tableIs("whatever act and rule are", x, 0, 2, 10, 5, 3, 65);
        x.act(0, 2);
        tableIs("whatever act and rule are", x, 2, 4, 5, 2, 16, 45);
        e.is("the act stays", x.croft(0, 3), 2);
        e.is("the rule stays", x.count(11), 2);
        x.act(0, 1);
        x.rule(0);
        x.go(2);
        tableIs("more", x, 0, 0, 0, 0, 3, 0);
        tableIs("more", x, 0, 1, 5, 0, 3, 0);
        x.go(22);
        tableIs("more", x, 0, 1, 0, 0, 0, 0);
        WeedStrand y = Due.strand("stripe 64;tide 0;tide 1;");
        y.go(1);
        tableIs("more", y, 0, 1, 0, 16, 0, 0);
    }

    private static final String TIED = "stripe 4;stripe 8;croft a 1 0 0;croft b 1 0 0;field a 6 0;field b 9 0;law worth wants;tide 0;";

    private void bestRule() {
        e.by(TERMS, "BEST RULE: with the most GAINS, the first of several.");
        String two = "croft a 1 0 0;croft b 1 0 0;field a 1 0;field b 50 0;law load 9;law worth wants;";
        e.is("free", Due.strand("stripe 30;stripe 2;" + two).best(1), 0);
        e.is("lots", Due.strand("stripe 8;stripe 9;" + two).best(1), 1);
        e.is("saved", Due.strand("stripe 16;croft a 1 0 0;croft b 1 0 0;field a 99 0;tide 0;law ebb lies;").best(3), 2);
        e.is("free and saved", Due.strand("stripe 16;croft a 1 0 0;croft b 1 0 0;field a 99 0;tide 0;law ebb lies;").best(2), 0);
        e.is("free and lots", Due.strand("stripe 9;stripe 8;" + two).best(1), 0);
        WeedStrand tied = Due.strand(TIED);
        int[] due = {78, 87, 87};
        for (int rule = 0; rule < 3; rule++) {
            e.is("gains by rule " + rule, tied.table(rule, 3, 3), due[rule]);
        }
        e.is("lots and saved", tied.best(3), 1);
        e.is("no gains at all", Due.strand("stripe 9;").best(9), 0);
        e.is("a new object", NOTHING.best(9), 0);
    }

    // ---- acts of one

    private void planIs(WeedStrand x, int croft, int gain, int... acts) {
        int n = acts.length;
        e.is("plan(" + croft + ", " + n + ")", x.plan(croft, n), gain);
        for (int k = 0; k < n; k++) {
            e.is("planned(" + croft + ", " + n + ", " + k + ")", x.planned(croft, n, k), acts[k]);
        }
    }

    private static final String FLOOD = "stripe 16;croft a 1 0 0;field a 99 0;tide 0;law ebb lies;";
    private static final String WAIT = "stripe 60;croft a 1 0 0;field a 9 0;law load lies;law worth hour*10;";

    private void actsOfOne() {
        e.by(TERMS, "ACTS of a CROFT for n HOURS 1 .. 6 (1 carts, 2 forks, 3 rests, HOUR by HOUR;");
        WeedStrand x = Due.strand(FLOOD);
        planIs(x, 0, 495, 1);
        planIs(x, 0, 777, 2, 1, 1);
        planIs(x, 0, 777, 2, 1, 1, 1, 1, 1);
        WeedStrand y = Due.strand(WAIT);
        planIs(y, 0, 600, 3, 1);
        planIs(y, 0, 1200, 3, 3, 1);
        planIs(y, 0, 3000, 3, 3, 3, 3, 3, 1);
        y.go(0);
        e.is("acts stay", y.croft(0, 3), 0);
    }

    private void othersAsTheyAre() {
        e.by(TERMS, "others as they are): by which its GAIN more is greatest,");
        WeedStrand x = Due.strand("stripe 10;croft a 1 0 0;croft b 2 0 0;field a 9 0;field b 9 0;");
        planIs(x, 1, 45, 1);
        x.act(0, 3);
        planIs(x, 1, 90, 1);
        x.act(0, 2);
        planIs(x, 1, 18, 1);
        planIs(x, 1, 90, 2, 1);
        WeedStrand y = Due.strand("stripe 10;stripe 4;croft a 1 0 0;croft b 1 0 0;field b 9 0;");
        planIs(y, 0, 0, 1);
        y.rule(1);
        planIs(y, 1, 36, 1);
        WeedStrand z = Due.strand("stripe 10;croft a 1 0 0;field a 9 0;");
        z.go(1);
        planIs(z, 0, 20, 1);
    }

    private void firstActs() {
        e.by(TERMS, "of several the first.");
        planIs(Due.strand(FLOOD), 0, 495, 1, 1);
        planIs(Due.strand("croft a 1 0 0;"), 0, 0, 1, 1, 1, 1, 1, 1);
        planIs(Due.strand("stripe 9;croft a 1 0 3;field a 9 0;"), 0, 0, 1, 1, 1);
        planIs(Due.strand("stripe 5;croft a 1 0 0;field a 9 0;law worth (hour=2)*10;"), 0, 50, 2, 2, 1);
        planIs(Due.strand(WAIT), 0, 0, 1);
    }

    // ---- when to come

    private static final String TWO = "stripe 10;croft a 1 0 5;croft b 1 0 7;field a 9 0;field b 9 0;law worth 10;";

    private void restsAre(String when, WeedStrand x, int one, int other, int n, int... want) {
        String call = "(" + one + ", " + other + ", " + n + ") " + when;
        e.is("rests" + call, x.rests(one, other, n), want.length);
        for (int k = 0; k < want.length; k++) {
            e.is("rest " + k + call, x.rest(one, other, n, k), want[k]);
        }
        e.is("no rest behind" + call, x.rest(one, other, n, want.length), -2);
    }

    private void coming() {
        e.by(TERMS, "COMING of two CROFTS that didn't come yet, for n HOURS:");
        WeedStrand x = Due.strand(TWO);
        restsAre("at first", x, 0, 1, 2, 0, 10);
        e.is("its own hour stays", x.croft(0, 2), 5);
        x.act(0, 3);
        x.act(1, 3);
        e.is("acts as they are", x.rests(0, 1, 2), 16);
        WeedStrand y = Due.strand("stripe 10;croft c 2 0 0;croft a 1 0 5;croft b 1 0 7;field c 9 0;field a 9 0;field b 9 0;");
        e.is("others as they are", y.rests(1, 2, 9), 16);
    }

    private void fourHours() {
        e.by(TERMS, "each comes at one of the 4 HOURS from now on: GAIN more.");
        String late = "stripe 5;croft a 1 0 50;croft b 0 0 60;field a 9 0;field b 9 0;law worth 10*(hour=";
        restsAre("at hour 3", Due.strand(late + "3);"), 0, 1, 9, 30, 31, 32, 33);
        restsAre("at hour 0", Due.strand(late + "0);"), 0, 1, 9, 0, 1, 2, 3);
        e.is("hour 4 is too late", Due.strand(late + "4);").rests(0, 1, 9), 16);
        WeedStrand x = Due.strand(late + "5);");
        e.is("hour 5 is too late", x.rests(0, 1, 9), 16);
        x.go(2);
        restsAre("from hour 2 on", x, 0, 1, 9, 30, 31, 32, 33);
        restsAre("from hour 2 on, the other way", x, 1, 0, 9, 3, 13, 23, 33);
        x.go(3);
        restsAre("from hour 5 on", x, 0, 1, 1, 0, 1, 2, 3);
    }

    private void aRest() {
        e.by(TERMS, "A REST: neither would have more by another HOUR alone.");
        // the best hours of each run after those of the other one
        WeedStrand x = Due.strand("stripe 4;stripe 4;croft a 1 0 9;croft b 1 0 9;field a 6 0;field b 6 0;law load hour*3;");
        restsAre("of none", x, 0, 1, 3);
        restsAre("of two", Due.strand(TWO), 0, 1, 2, 0, 10);
        restsAre("of one hour", Due.strand(TWO), 0, 1, 1, 0);
    }

    private void orderOfRests() {
        e.by(TERMS, "RESTS: by the first one's, then the second one's HOUR.");
        WeedStrand x = Due.strand("croft a 1 0 1;croft b 1 0 1;");
        for (int k = 0; k < 16; k++) {
            e.is("rest " + k, x.rest(0, 1, 1, k), 10 * (k / 4) + k % 4);
            e.is("rest " + k + " the other way", x.rest(1, 0, 1, k), 10 * (k / 4) + k % 4);
        }
        restsAre("the other way", Due.strand(TWO), 1, 0, 2, 0, 1);
    }

    // ---- lots

    private void unlikeLots() {
        e.by(TERMS, "UNLIKE LOTS: what LIES on all LOTS of the CROFT with most less that of the one with least.");
        String stripes = "stripe 10;stripe 4;stripe 2;";
        e.is("of one", Due.strand(stripes + "croft a 1 1 1;").unlike(), 0);
        e.is("of two", Due.strand(stripes + "croft a 1 1 1;croft b 1 1 1;").unlike(), 8);
        e.is("of three", Due.strand(stripes + "croft a 1 1 1;croft b 1 1 1;croft c 1 1 1;").unlike(), 8);
        WeedStrand x = Due.strand(stripes + "croft a 1 1 1;croft b 1 1 1;croft c 1 1 1;croft d 1 1 1;");
        e.is("of four, one without any", x.unlike(), 10);
        x.lot(0, 3);
        e.is("the last has most", x.unlike(), 10);
        x.lot(1, 3);
        x.lot(2, 3);
        e.is("the last has all", x.unlike(), 16);
        e.is("nothing lies", Due.strand("stripe 0;croft a 1 1 1;croft b 1 1 1;").unlike(), 0);
        e.is("alike", Due.strand("stripe 9;stripe 9;croft a 1 1 1;croft b 1 1 1;").unlike(), 0);
    }

    private void swapIs(String text, int one, int other, int unlike) {
        WeedStrand x = Due.strand(text);
        int[] want = {one, other, unlike};
        for (int what = 0; what < 3; what++) {
            e.is("swap(" + what + ") of " + text, x.swap(what), want[what]);
        }
    }

    private void aSwap() {
        e.by(TERMS, "SWAP: two STRIPES of two CROFTS by whose change of hands these are least unlike,");
        String two = "croft a 1 1 1;croft b 1 1 1;";
        swapIs("stripe 10;stripe 4;stripe 2;" + two, 0, 1, 4);
        swapIs("stripe 9;stripe 1;stripe 7;stripe 4;" + two, 0, 3, 1);
        swapIs("stripe 1;stripe 5;stripe 9;" + two, 1, 2, 3);
        swapIs("stripe 9;stripe 0;stripe 0;stripe 9;stripe 9;stripe 0;croft a 1 1 1;croft b 1 1 1;croft c 1 1 1;", 0, 2, 0);
        WeedStrand x = Due.strand("stripe 1;stripe 5;stripe 9;" + two);
        x.swap(0);
        e.is("lots stay", x.stripe(1, 1), 1);
        e.is("lots stay", x.unlike(), 5);
        x.lot(0, 1);
        x.lot(2, 1);
        e.is("all of one: none", x.swap(0), -2);
        swapIs("stripe 20;stripe 13;stripe 9;stripe 7;stripe 1;stripe 6;" + two, 2, 3, 0);
        WeedStrand y = Due.strand("stripe 10;stripe 4;stripe 2;stripe 8;" + two);
        e.is("none at first", y.swap(0), -2);
        y.lot(1, 0);
        int[] due = {0, 3, 4};
        for (int what = 0; what < 3; what++) {
            e.is("swap(" + what + ") of lots by call", y.swap(what), due[what]);
        }
        WeedStrand z = Due.strand("stripe 9;stripe 0;stripe 9;croft a 2 0 0;croft b 0 0 0;field a 9 0;");
        e.is("swap at first", z.swap(0), 0);
        z.go(1);
        e.is("swap(0) an hour later", z.swap(0), -2);
    }

    private void swapLessThanNow() {
        e.by(TERMS, "less than now,");
        String two = "croft a 1 1 1;croft b 1 1 1;";
        swapIs("stripe 9;stripe 5;" + two, -2, -2, -2);
        swapIs("stripe 9;stripe 9;" + two, -2, -2, -2);
        swapIs("stripe 10;stripe 4;stripe 0;stripe 6;" + two, -2, -2, -2);
        swapIs("stripe 11;stripe 4;stripe 0;stripe 6;" + two, -2, -2, -2);
        swapIs("stripe 12;stripe 11;stripe 0;stripe 0;" + two, -2, -2, -2);
        WeedStrand x = Due.strand("stripe 10;stripe 1;stripe 6;stripe 1;" + two);
        e.is("less than at first", x.swap(2), 4);
        x.lot(2, 1);
        e.is("less than at first isn't less than now", x.swap(2), -2);
        swapIs("stripe 12;stripe 10;stripe 1;stripe 0;" + two, 0, 1, 1);
    }

    private void firstSwap() {
        e.by(TERMS, "of several the first by STRIPES.");
        String two = "croft a 1 1 1;croft b 1 1 1;";
        swapIs("stripe 5;stripe 1;stripe 5;stripe 1;" + two, 0, 1, 0);
        swapIs("stripe 9;stripe 9;stripe 9;stripe 5;stripe 9;stripe 5;" + two, 0, 3, 0);
        swapIs("stripe 2;stripe 1;stripe 8;stripe 1;stripe 5;stripe 1;" + two, 1, 2, 2);
    }

    // ---- lending

    private static final String STEEP = "stripe 99;croft a 1 9 0;croft b 1 0 0;field a 50 0;field b 40 0;";
    private static final String ALIKE = "stripe 99;croft a 1 0 0;croft b 1 0 0;field a 40 0;field b 40 0;";
    private static final String BETTER = "stripe 99;croft a 1 0 0;croft b 1 0 0;field a 40 0;field b 41 0;";
    private static final String WORSE = "stripe 99;croft a 2 0 0;croft b 1 0 0;field a 1 0;field b 1 0;law worth 20-carts*10;";

    private void lendingIs(String text, int from, int to, int... want) {
        WeedStrand x = Due.strand(text);
        for (int what = 0; what < 3; what++) {
            e.is("lending(" + from + ", " + to + ", 1, " + what + ") of " + text, x.lending(from, to, 1, what), want[what]);
        }
        e.is("no cart comes", x.croft(to, 0), Due.strand(text).croft(to, 0));
        e.is("nothing to undo", x.count(14), 0);
    }

    private void aLending() {
        e.by(TERMS, "LENDING of a cart by a CROFT with any to another one (5 at most) for n HOURS, as it goes: what the one has less GAIN, what the other one has more GAIN");
        lendingIs(ALIKE, 0, 1, 200, 200, -2);
        lendingIs(STEEP, 1, 0, 200, 50, -2);
        WeedStrand x = Due.strand(STEEP);
        e.is("more in two hours", x.lending(0, 1, 2, 1), 10 * 40 + 10 * 30 - 5 * 40 - 5 * 35);
        WeedStrand y = Due.strand("stripe 99;croft a 1 0 0;croft b 4 0 0;field a 9 0;field b 9 0;");
        e.is("to a fifth", y.lending(0, 1, 1, 1), 45);
        y.act(1, 3);
        e.is("acts as they are", y.lending(0, 1, 1, 1), 0);
        y.act(1, 0);
        y.go(1);
        e.is("gain more than without, not than nothing", y.lending(0, 1, 1, 1), 0);
        e.is("gain less than without", y.lending(0, 1, 1, 0), 5 * 4);
    }

    private void noLessThanNothing() {
        e.by(TERMS, "(0 at least, both);");
        lendingIs(WORSE, 0, 1, 0, 0, -2);
        lendingIs(STEEP, 0, 1, 0, 200, 1);
    }

    private void price() {
        e.by(TERMS, "it's worth it, if the second is more: the least PRICE is the first and 1.");
        lendingIs(BETTER, 0, 1, 200, 205, 201);
        lendingIs(BETTER, 1, 0, 205, 200, -2);
        lendingIs(ALIKE, 1, 0, 200, 200, -2);
        lendingIs("stripe 0;croft a 1 0 0;croft b 1 0 0;", 0, 1, 0, 0, -2);
        lendingIs("stripe 99;croft a 1 0 0;croft b 1 0 0;field a 40 0;field b 1 0;law worth 10+(wants=1)*(carts=2);", 0, 1, 50, 60, 51);
    }

    // ---- turns

    private static final String BY_LOTS = "stripe 20;stripe 6;croft a 0 0 50;croft b 0 0 60;rule lots;";

    private void turnsAre(WeedStrand x, int heap, int... crofts) {
        int n = crofts.length;
        e.is("turns(" + n + ")", x.turns(n), heap);
        for (int k = 0; k < n; k++) {
            e.is("turn(" + n + ", " + k + ")", x.turn(n, k), crofts[k]);
        }
    }

    private void aTurn() {
        e.by(TERMS, "TURNS for n HOURS 1 .. 4: which CROFT forks in each of these, all others resting (all as if they came): the most on the HEAP then,");
        WeedStrand x = Due.strand(BY_LOTS);
        turnsAre(x, 8, 0);
        turnsAre(x, 26, 0, 0, 0, 1);
        e.is("they didn't come", x.croft(0, 2), 50);
        turnsAre(Due.strand("stripe 3;stripe 9;stripe 2;stripe 7;croft a 0 0 1;croft b 0 0 2;croft c 0 0 3;croft d 0 0 4;rule lots;"),
            20, 0, 1, 2, 3);
        WeedStrand y = Due.strand("stripe 20;stripe 8;croft a 0 0 0;croft b 0 0 0;rule lots;tide 0;law ebb lies*(lies<9);");
        turnsAre(y, 16, 1, 0);
        WeedStrand z = Due.strand("stripe 10;croft a 5 0 0;croft b 5 0 0;field a 9 0;field b 9 0;rule saved;heap 3;");
        turnsAre(z, 11, 0);
        z.act(0, 3);
        z.act(1, 1);
        turnsAre(z, 13, 0, 1);
        e.is("acts stay", z.croft(0, 3) + z.croft(1, 3), 4);
        turnsAre(Due.strand("stripe 9;croft a 0 0 0;law fork 5;"), 9, 0, 0);
    }

    private void leastUnlikeTurn() {
        e.by(TERMS, "of several what FORKED (in all) is least unlike,");
        WeedStrand x = Due.strand("stripe 99;croft a 1 0 0;croft b 1 0 60;");
        turnsAre(x, 16, 0, 1);
        turnsAre(x, 32, 0, 0, 1, 1);
        turnsAre(Due.strand(BY_LOTS), 22, 0, 0, 1);
        x.act(0, 2);
        x.go(2);
        turnsAre(x, 24, 1);
        turnsAre(x, 32, 1, 1);
        turnsAre(x, 48, 0, 1, 1, 1);
        turnsAre(Due.strand("stripe 99;croft a 0 0 0;croft b 0 0 0;croft c 0 0 0;"), 24, 0, 1, 2);
    }

    private void firstTurn() {
        e.by(TERMS, "of several the first by CROFTS, HOUR by HOUR.");
        turnsAre(Due.strand("stripe 99;croft a 0 0 0;croft b 0 0 0;croft c 0 0 0;croft d 0 0 0;"), 32, 0, 1, 2, 3);
        turnsAre(Due.strand("stripe 99;croft a 0 0 0;croft b 0 0 0;"), 24, 0, 0, 1);
        turnsAre(Due.strand("croft a 0 0 0;croft b 0 0 0;"), 0, 0, 0, 0, 0);
        turnsAre(Due.strand("stripe 8;croft a 0 0 0;croft b 0 0 0;"), 8, 0, 0);
    }

    // ---- odds and what is tried

    private void oddsAre(int odds, int k, int above, int below) {
        WeedStrand x = Due.strand("gale " + odds + " 0;");
        e.is("odds(" + k + ", 0) of " + odds, x.odds(k, 0), above);
        e.is("odds(" + k + ", 1) of " + odds, x.odds(k, 1), below);
    }

    private void oddsOfAGale() {
        e.by(TERMS, "ODDS of a GALE within k HOURS 1 .. 4: all less (100 less odds) to the power of k by 100 to that.");
        oddsAre(30, 1, 3, 10);
        oddsAre(30, 2, 51, 100);
        oddsAre(30, 3, 657, 1000);
        oddsAre(30, 4, 7599, 10000);
        oddsAre(1, 4, 100000000 - 99 * 99 * 99 * 99, 100000000);
        oddsAre(99, 4, 99999999, 100000000);
        oddsAre(50, 4, 15, 16);
        for (int k = 1; k <= 4; k++) {
            oddsAre(0, k, 0, 1);
            oddsAre(100, k, 1, 1);
        }
    }

    private static final String TRIED = "stripe 10;croft a 1 2 0;croft b 1 0 0;field a 10 0;field b 20 0;tide 0;heap 3;law worth wants;";

    private void triedWays() {
        e.by(TERMS, "TRIED for n HOURS as it goes, with ACTS as they are: 0 no TIDES, 1 CROFT i doesn't come, 2 all have a cart more (6 then, too), 3 no HILL, 4 nothing is on the HEAP now: GAINS more.");
        WeedStrand x = Due.strand(TRIED);
        e.is("no tides", x.tried(0, 0, 2), 210);
        e.is("a doesn't come", x.tried(1, 0, 2), 160);
        e.is("b doesn't come", x.tried(1, 1, 2), 60);
        e.is("a cart more", x.tried(2, 0, 2), 150);
        e.is("no hill", x.tried(3, 0, 2), 180);
        e.is("no heap", x.tried(4, 0, 2), 140);
        x.act(0, 3);
        e.is("acts as they are", x.tried(4, 0, 2), 160);
        x.rule(2);
        e.is("the rule as it is", x.tried(4, 0, 1), 0);
        WeedStrand y = Due.strand(TRIED);
        y.go(1);
        e.is("gains more", y.tried(0, 0, 1), 70);
        e.is("no heap now", y.tried(4, 0, 1), 10);
        e.is("the tide took what it took", y.count(8), 1);
        WeedStrand z = Due.strand("stripe 99;croft a 5 0 0;croft b 0 9 0;field a 9 0;field b 9 0;law worth 1;");
        e.is("6 carts", z.tried(2, 0, 1), 30);
        e.is("hills of all", z.tried(3, 0, 1), 25);
        e.is("carts stay", z.croft(0, 0), 5);
        e.is("hills stay", z.croft(1, 1), 9);
        WeedStrand four = Due.strand("stripe 99;croft a 0 9 0;croft b 0 9 0;croft c 0 9 0;croft d 5 9 0;field d 9 0;law worth 1;");
        e.is("6 carts of the fourth", four.tried(2, 0, 1), 21);
        e.is("no hill of the fourth", four.tried(3, 0, 1), 25);
        e.is("the fourth doesn't come", four.tried(1, 3, 1), 0);
        e.is("the third doesn't come", four.tried(1, 2, 1), 16);
        WeedStrand w = Due.strand("stripe 99;croft a 5 0 0;field a 9 0;law load carts*10+hill;law worth carts;");
        e.is("six as a name", w.tried(2, 0, 1), 60 * 6);
        WeedStrand u = Due.strand("stripe 99;croft a 1 0 0;croft b 1 0 0;field a 9 0;field b 9 0;law load 7;law worth 1;");
        e.is("who doesn't come carts by no law", u.tried(1, 0, 3), 21);
        WeedStrand t = Due.strand("stripe 16;croft a 1 0 1;croft b 2 0 0;field b 9 0;law worth 1;rule saved;");
        e.is("who doesn't come forks nothing", t.tried(1, 0, 3), 10);
        e.is("else it forks", t.table(2, 3, 3), 16);
        e.is("else it forks", t.table(2, 2, 3), 10);
        e.is("who doesn't come forks nothing", t.tried(1, 0, 2), 0);
        WeedStrand v = Due.strand("stripe 9;croft a 1 0 1;croft b 1 0 1;field a 9 0;field b 9 0;");
        e.is("a doesn't come later, either", v.tried(1, 0, 2), 45);
        e.is("heap of the hours to come", Due.strand("stripe 8;croft a 2 0 0;field a 9 0;heap 9;rule saved;").tried(4, 0, 2), 72);
    }

    // ---- the promises

    private void table() {
        e.by("Promise 16", "By a RULE for n HOURS (0 .. 99), what 0 what FIELDS GOT more, 1 what went to the SEA more, 2 the HEAP then, 3 GAINS more.");
        WeedStrand x = Due.strand(SHORE);
        tableIs("none", x, 0, 0, 0, 0, 3, 0);
        tableIs("two", x, 0, 2, 10, 5, 3, 65);
        tableIs("most", x, 0, 99, 18, 5, 0, 65);
        WeedStrand y = Due.strand("stripe 999;croft a 1 0 0;field a 9 0;law worth 1;");
        tableIs("most", y, 1, 99, 495, 0, 0, 495);
        tableIs("of a new object", NOTHING, 2, 99, 0, 0, 0, 0);
    }

    private void tableNone() {
        e.by("Promise 16", "NONE: no such ones.");
        WeedStrand x = Due.strand(SHORE);
        for (int other : new int[] {-1, 3}) {
            e.is("rule " + other, x.table(other, 1, 2), -1);
        }
        for (int other : new int[] {-1, 100}) {
            e.is("n " + other, x.table(0, other, 2), -1);
        }
        for (int other : new int[] {-1, 4}) {
            e.is("what " + other, x.table(0, 1, other), -1);
        }
        for (int far : Edges.FAR) {
            e.is("rule " + far, x.table(far, 1, 2), -1);
            e.is("n " + far, x.table(0, far, 2), -1);
            e.is("what " + far, x.table(0, 1, far), -1);
        }
    }

    private void best() {
        e.by("Promise 17", "BEST RULE (n 0 .. 99);");
        WeedStrand x = Due.strand(TIED);
        e.is("best(0)", x.best(0), 0);
        e.is("best(3)", x.best(3), 1);
        x.rule(2);
        x.act(1, 3);
        e.is("whatever act and rule are", x.best(3), 1);
        WeedStrand y = Due.strand("stripe 16;croft a 1 0 0;croft b 1 0 0;field a 99 0;tide 0;law ebb lies;");
        e.is("best(99)", y.best(99), 2);
    }

    private void bestNone() {
        e.by("Promise 17", "NONE: no such n.");
        WeedStrand x = Due.strand(TIED);
        e.is("best(-1)", x.best(-1), -1);
        e.is("best(100)", x.best(100), -1);
        for (int far : Edges.FAR) {
            e.is("best(" + far + ")", x.best(far), -1);
        }
    }

    private void plan() {
        e.by("Promise 18", "ACTS: the GAIN more;");
        WeedStrand x = Due.strand(FLOOD);
        int[] due = {495, 495, 777, 777, 777, 777};
        for (int n = 1; n <= 6; n++) {
            e.is("plan(0, " + n + ")", x.plan(0, n), due[n - 1]);
        }
        x.act(0, 2);
        x.go(1);
        e.is("more", x.plan(0, 1), 495);
        x.act(0, 1);
        x.go(1);
        e.is("more", x.plan(0, 1), 282);
    }

    private void planNone() {
        e.by("Promise 18", "NONE: no such ones.");
        WeedStrand x = Due.strand(FLOOD);
        e.is("n 0", x.plan(0, 0), -1);
        e.is("n 7", x.plan(0, 7), -1);
        e.is("n -1", x.plan(0, -1), -1);
        e.is("croft 1", x.plan(1, 1), -1);
        e.is("croft -1", x.plan(-1, 1), -1);
        e.is("none told", NOTHING.plan(0, 1), -1);
        for (int far : Edges.FAR) {
            e.is("n " + far, x.plan(0, far), -1);
            e.is("croft " + far, x.plan(far, 1), -1);
        }
    }

    private void planned() {
        e.by("Promise 19", "The ACT of the k-th HOUR (0 up) of it;");
        int[] due = {2, 1, 1, 1, 1, 1};
        for (int k = 5; k >= 0; k--) {
            e.is("planned(0, 6, " + k + ")", Due.strand(FLOOD).planned(0, 6, k), due[k]);
        }
    }

    private void plannedTooMany() {
        e.by("Promise 19", "-2: there are no so many;");
        WeedStrand x = Due.strand(FLOOD);
        for (int n = 1; n <= 6; n++) {
            e.is("planned(0, " + n + ", " + n + ")", x.planned(0, n, n), -2);
            e.is("planned(0, " + n + ", 9)", x.planned(0, n, 9), -2);
            e.is("planned(0, " + n + ", far)", x.planned(0, n, Integer.MAX_VALUE), -2);
        }
    }

    private void plannedNone() {
        e.by("Promise 19", "NONE: no such ones.");
        WeedStrand x = Due.strand(FLOOD);
        e.is("k -1", x.planned(0, 3, -1), -1);
        e.is("k least", x.planned(0, 3, Integer.MIN_VALUE), -1);
        for (int k : new int[] {-1, 0, 7, Integer.MAX_VALUE}) {
            e.is("n 0", x.planned(0, 0, k), -1);
            e.is("n 7", x.planned(0, 7, k), -1);
            e.is("croft 1", x.planned(1, 3, k), -1);
            e.is("croft -1", x.planned(-1, 3, k), -1);
            e.is("none told", NOTHING.planned(0, 3, k), -1);
            for (int far : Edges.FAR) {
                e.is("n " + far, x.planned(0, far, k), -1);
                e.is("croft " + far, x.planned(far, 3, k), -1);
            }
        }
    }

    private void rests() {
        e.by("Promise 20", "How many RESTS COMING has (n 1 .. 99);");
        WeedStrand x = Due.strand(TWO);
        e.is("of one hour", x.rests(0, 1, 1), 1);
        e.is("of two hours", x.rests(0, 1, 2), 2);
        e.is("of 99 hours of nothing", Due.strand("croft a 1 0 1;croft b 1 0 99;").rests(0, 1, 99), 16);
        e.is("none", Due.strand("stripe 4;stripe 4;croft a 1 0 9;croft b 1 0 9;field a 6 0;field b 6 0;law load hour*3;").rests(0, 1, 3), 0);
    }

    private static final String COMING = "stripe 9;croft a 1 0 0;croft b 1 0 1;croft c 1 0 2;croft d 1 0 3;";

    private void noComing(WeedStrand x, int one, int other, int n) {
        e.is("rests(" + one + ", " + other + ", " + n + ")", x.rests(one, other, n), -1);
        for (int k : new int[] {-1, 0, 16, Integer.MAX_VALUE}) {
            e.is("rest(" + one + ", " + other + ", " + n + ", " + k + ")", x.rest(one, other, n, k), -1);
        }
    }

    private void noComings() {
        WeedStrand x = Due.strand(COMING);
        noComing(x, 2, 3, 0);
        noComing(x, 2, 3, 100);
        noComing(x, -1, 3, 1);
        noComing(x, 2, -1, 1);
        noComing(x, 4, 3, 1);
        noComing(x, 2, 4, 1);
        noComing(x, 3, 3, 1);
        noComing(x, 0, 3, 1);
        noComing(x, 3, 0, 1);
        noComing(NOTHING, 0, 1, 1);
        for (int far : Edges.FAR) {
            noComing(x, far, 3, 1);
            noComing(x, 2, far, 1);
        }
        WeedStrand y = Due.strand(COMING);
        for (int far : Edges.FAR) {
            noComing(y, 2, 3, far);
        }
        e.is("one comes an hour from now", y.rests(1, 3, 1), 16);
        y.go(1);
        noComing(y, 1, 3, 1);
        noComing(y, 3, 1, 1);
        noComing(y, 0, 3, 1);
        noComing(y, 3, 0, 1);
        e.is("one comes an hour from now", y.rests(2, 3, 1), 16);
        y.go(1);
        noComing(y, 2, 3, 1);
        noComing(y, 1, 3, 1);
        noComing(y, 3, 1, 1);
    }

    private void restsNone() {
        e.by("Promise 20", "NONE: no such ones, alike, one came, or comes now.");
        noComings();
    }

    private void rest() {
        e.by("Promise 21", "The k-th: ten times how many HOURS from now the first one comes and the second one;");
        WeedStrand x = Due.strand(TWO);
        e.is("rest 0", x.rest(0, 1, 2, 0), 0);
        e.is("rest 1", x.rest(0, 1, 2, 1), 10);
        e.is("the other way", x.rest(1, 0, 2, 1), 1);
        e.is("the last of all", Due.strand("croft a 1 0 1;croft b 1 0 99;").rest(1, 0, 99, 15), 33);
    }

    private void restTooMany() {
        e.by("Promise 21", "-2: there are no so many;");
        WeedStrand x = Due.strand(TWO);
        e.is("rest 2", x.rest(0, 1, 2, 2), -2);
        e.is("rest 99", x.rest(0, 1, 2, 99), -2);
        e.is("rest far", x.rest(0, 1, 2, Integer.MAX_VALUE), -2);
        e.is("of all", Due.strand("croft a 1 0 1;croft b 1 0 99;").rest(1, 0, 99, 16), -2);
        e.is("of none",
            Due.strand("stripe 4;stripe 4;croft a 1 0 9;croft b 1 0 9;field a 6 0;field b 6 0;law load hour*3;").rest(0, 1, 3, 0), -2);
    }

    private void restNone() {
        e.by("Promise 21", "NONE likewise.");
        noComings();
        e.is("no such k", Due.strand(TWO).rest(0, 1, 2, -1), -1);
        e.is("no such k", Due.strand(TWO).rest(0, 1, 2, Integer.MIN_VALUE), -1);
    }

    private void unlike() {
        e.by("Promise 22", "UNLIKE LOTS (0 without CROFTS).");
        e.is("without crofts", Due.strand("stripe 10;stripe 4;").unlike(), 0);
        e.is("a new object", NOTHING.unlike(), 0);
        WeedStrand x = Due.strand("stripe 10;stripe 4;croft a 1 0 0;croft b 1 0 0;field a 9 0;");
        e.is("unlike", x.unlike(), 6);
        x.go(1);
        e.is("unlike now", x.unlike(), 1);
        e.is("of crofts without stripes", Due.strand("croft a 1 1 1;croft b 1 1 1;").unlike(), 0);
    }

    private void swap() {
        e.by("Promise 23", "SWAP, what 0, 1: the STRIPES, 2: how unlike LOTS are then.");
        swapIs("stripe 9;stripe 1;stripe 7;stripe 4;croft a 1 1 1;croft b 1 1 1;", 0, 3, 1);
        swapIs("stripe 9;stripe 0;stripe 0;stripe 0;stripe 0;stripe 0;stripe 6;stripe 4;croft a 1 1 1;croft b 1 1 1;", 0, 7, 1);
    }

    private void noSwap() {
        e.by("Promise 23", "-2: there is none;");
        swapIs("croft a 1 1 1;croft b 1 1 1;", -2, -2, -2);
        swapIs("stripe 9;croft a 1 1 1;croft b 1 1 1;", -2, -2, -2);
        swapIs("stripe 9;stripe 1;", -2, -2, -2);
        swapIs("stripe 9;stripe 1;croft a 1 1 1;", -2, -2, -2);
        swapIs("", -2, -2, -2);
    }

    private void swapNone() {
        e.by("Promise 23", "NONE for another what.");
        WeedStrand x = Due.strand("stripe 10;stripe 4;stripe 2;croft a 1 1 1;croft b 1 1 1;");
        for (WeedStrand one : new WeedStrand[] {x, NOTHING}) {
            e.is("swap(-1)", one.swap(-1), -1);
            e.is("swap(3)", one.swap(3), -1);
            for (int far : Edges.FAR) {
                e.is("swap(" + far + ")", one.swap(far), -1);
            }
        }
    }

    private void lending() {
        e.by("Promise 24", "LENDING (n 1 .. 99), what 0: GAIN less, 1: GAIN more, 2: the least PRICE (-2: it isn't worth it).");
        lendingIs(BETTER, 0, 1, 200, 205, 201);
        lendingIs(STEEP, 1, 0, 200, 50, -2);
        String long1 = "stripe 999;croft a 1 0 0;croft b 1 0 0;field a 9 0;field b 9 0;law worth 1+(carts=2);law load 5;";
        WeedStrand x = Due.strand(long1);
        e.is("less of 99 hours", x.lending(0, 1, 99, 0), 0);
        e.is("more of 99 hours", x.lending(0, 1, 99, 1), 495);
        e.is("price of 99 hours", x.lending(0, 1, 99, 2), 1);
    }

    private void lendingNone() {
        e.by("Promise 24", "NONE: no such ones, alike, no cart, 5 carts.");
        WeedStrand x = Due.strand("stripe 99;croft a 0 0 0;croft b 5 0 0;croft c 4 0 0;");
        for (int what = 0; what < 3; what++) {
            e.is("alike", x.lending(2, 2, 1, what), -1);
            e.is("no cart", x.lending(0, 2, 1, what), -1);
            e.is("5 carts", x.lending(2, 1, 1, what), -1);
            e.is("from -1", x.lending(-1, 2, 1, what), -1);
            e.is("from 3", x.lending(3, 2, 1, what), -1);
            e.is("to -1", x.lending(1, -1, 1, what), -1);
            e.is("to 3", x.lending(1, 3, 1, what), -1);
            e.is("n 0", x.lending(1, 2, 0, what), -1);
            e.is("n 100", x.lending(1, 2, 100, what), -1);
            e.is("none told", NOTHING.lending(0, 1, 1, what), -1);
            for (int far : Edges.FAR) {
                e.is("from " + far, x.lending(far, 2, 1, what), -1);
                e.is("to " + far, x.lending(1, far, 1, what), -1);
                e.is("n " + far, x.lending(1, 2, far, what), -1);
            }
        }
        e.is("what -1", x.lending(1, 2, 1, -1), -1);
        e.is("what 3", x.lending(1, 2, 1, 3), -1);
        for (int far : Edges.FAR) {
            e.is("what " + far, x.lending(1, 2, 1, far), -1);
        }
        e.is("such ones", x.lending(1, 2, 1, 0), 0);
    }

    private void turns() {
        e.by("Promise 25", "TURNS: the HEAP then;");
        WeedStrand x = Due.strand(BY_LOTS + "heap 5;");
        int[] due = {13, 21, 27, 31};
        for (int n = 1; n <= 4; n++) {
            e.is("turns(" + n + ")", x.turns(n), due[n - 1]);
        }
        e.is("the heap stays", x.count(7), 5);
    }

    private void turnsNone() {
        e.by("Promise 25", "NONE: no such n, no CROFTS.");
        WeedStrand x = Due.strand(BY_LOTS);
        WeedStrand y = Due.strand("stripe 9;heap 5;");
        e.is("turns(0)", x.turns(0), -1);
        e.is("turns(5)", x.turns(5), -1);
        e.is("turns(-1)", x.turns(-1), -1);
        for (int far : Edges.FAR) {
            e.is("turns(" + far + ")", x.turns(far), -1);
        }
        for (int n = 0; n <= 5; n++) {
            e.is("no crofts, n " + n, y.turns(n), -1);
        }
    }

    private void turn() {
        e.by("Promise 26", "The CROFT of the k-th HOUR (0 up) in it;");
        int[] due = {0, 0, 0, 1};
        for (int k = 3; k >= 0; k--) {
            e.is("turn(4, " + k + ")", Due.strand(BY_LOTS).turn(4, k), due[k]);
        }
    }

    private void turnTooMany() {
        e.by("Promise 26", "-2: there are no so many;");
        WeedStrand x = Due.strand(BY_LOTS);
        for (int n = 1; n <= 4; n++) {
            e.is("turn(" + n + ", " + n + ")", x.turn(n, n), -2);
            e.is("turn(" + n + ", 9)", x.turn(n, 9), -2);
            e.is("turn(" + n + ", far)", x.turn(n, Integer.MAX_VALUE), -2);
        }
    }

    private void turnNone() {
        e.by("Promise 26", "NONE likewise, k below 0.");
        WeedStrand x = Due.strand(BY_LOTS);
        WeedStrand y = Due.strand("stripe 9;heap 5;");
        for (int n = 1; n <= 4; n++) {
            e.is("k -1", x.turn(n, -1), -1);
            e.is("k least", x.turn(n, Integer.MIN_VALUE), -1);
        }
        for (int k : new int[] {-1, 0, 9, Integer.MAX_VALUE}) {
            e.is("no crofts, k " + k, y.turn(1, k), -1);
            e.is("n 0, k " + k, x.turn(0, k), -1);
            e.is("n 5, k " + k, x.turn(5, k), -1);
            for (int far : Edges.FAR) {
                e.is("n " + far, x.turn(far, k), -1);
            }
        }
    }

    private void odds() {
        e.by("Promise 27", "ODDS of a GALE in least terms, what 0: the number above, 1: the one below.");
        oddsAre(25, 1, 1, 4);
        oddsAre(25, 2, 7, 16);
        oddsAre(10, 3, 271, 1000);
        oddsAre(0, 4, 0, 1);
        oddsAre(100, 4, 1, 1);
        e.is("without a gale", Due.strand("heap 1;").odds(1, 0), 0);
        e.is("without a gale", Due.strand("heap 1;").odds(1, 1), 1);
        WeedStrand x = Due.strand("gale 30 0;");
        x.go(9);
        e.is("at any hour", x.odds(1, 0), 3);
    }

    private void oddsNone() {
        e.by("Promise 27", "NONE: no such ones.");
        WeedStrand x = Due.strand("gale 30 0;");
        for (int what = 0; what < 2; what++) {
            e.is("k 0", x.odds(0, what), -1);
            e.is("k 5", x.odds(5, what), -1);
            e.is("k -1", x.odds(-1, what), -1);
            for (int far : Edges.FAR) {
                e.is("k " + far, x.odds(far, what), -1);
            }
        }
        e.is("what -1", x.odds(1, -1), -1);
        e.is("what 2", x.odds(1, 2), -1);
        for (int far : Edges.FAR) {
            e.is("what " + far, x.odds(1, far), -1);
        }
    }

    private void chance() {
        e.by("Promise 32", "In how many of ten times drawn (numbers from a seed 0 .. 2147483647 on, one behind another; n 1 .. 99 HOURS from now, with GALES) a CROFT has GAIN of a bound 0 .. 999999 at least then;");
        String text = "stripe 0;croft a 1 0 0;croft b 1 0 0;field a 10 0;gale 40 5;law worth 1;seed 3;";
        WeedStrand x = Due.strand(text);
        for (int seed : new int[] {0, 1, 65536, 2147483646, 2147483647}) {
            for (int n : new int[] {1, 2, 9, 99}) {
                int around = 2 * n;
                for (int bound : new int[] {0, around - 1, around, around + 3, 5 * n, 5 * n + 1}) {
                    e.is("chance(" + seed + ", " + n + ", 0, " + bound + ")", x.chance(seed, n, 0, bound), Due.drawn(seed, 40, n, 0, bound));
                }
            }
        }
        e.is("bound 0 is always reached", x.chance(1, 1, 1, 0), 10);
        e.is("b has no gain", x.chance(1, 99, 1, 1), 0);
        e.is("bound 999999", x.chance(1, 99, 0, 999999), 0);
        x.go(20);
        int gain = x.croft(0, 4);
        WeedStrand y = Due.strand(text);
        y.go(20);
        e.is("gain in all", x.chance(8, 2, 0, gain), 10);
        e.is("gain in all", x.chance(8, 2, 0, gain + 5), Due.drawn(8, 40, 2, gain, gain + 5));
        x.go(20);
        y.go(20);
        e.is("its own numbers go on", x.croft(0, 4), y.croft(0, 4));
        x.act(0, 3);
        e.is("acts as they are", x.chance(8, 99, 0, x.croft(0, 4) + 1), 0);
        WeedStrand z = Due.strand("stripe 5;croft a 1 0 0;field a 10 0;law worth 1;");
        e.is("without odds", z.chance(7, 1, 0, 5), 10);
        e.is("without odds", z.chance(7, 99, 0, 6), 0);
        WeedStrand w = Due.strand("stripe 999;".repeat(8) + "croft a 1 0 0;field a 10 0;law worth 99;law load 99;gale 100 99;");
        w.go(99);
        w.go(2);
        e.is("a great gain", w.croft(0, 4), 101 * 9801);
        e.is("just the bound", w.chance(0, 1, 0, 102 * 9801), 10);
        e.is("less than the bound", w.chance(0, 1, 0, 102 * 9801 + 1), 0);
        e.is("less than bound 999999", w.chance(0, 1, 0, 999999), 0);
        e.is("more than bound 999999", w.chance(0, 2, 0, 999999), 10);
    }

    private void chanceNone() {
        e.by("Promise 32", "NONE: no such ones.");
        WeedStrand x = Due.strand("stripe 0;croft a 1 0 0;gale 40 5;");
        e.is("seed -1", x.chance(-1, 1, 0, 0), -1);
        e.is("seed least", x.chance(Integer.MIN_VALUE, 1, 0, 0), -1);
        e.is("n 0", x.chance(0, 0, 0, 0), -1);
        e.is("n 100", x.chance(0, 100, 0, 0), -1);
        e.is("croft -1", x.chance(0, 1, -1, 0), -1);
        e.is("croft 1", x.chance(0, 1, 1, 0), -1);
        e.is("bound -1", x.chance(0, 1, 0, -1), -1);
        e.is("bound 1000000", x.chance(0, 1, 0, 1000000), -1);
        e.is("none told", NOTHING.chance(0, 1, 0, 0), -1);
        for (int far : Edges.FAR) {
            e.is("n " + far, x.chance(0, far, 0, 0), -1);
            e.is("croft " + far, x.chance(0, 1, far, 0), -1);
            e.is("bound " + far, x.chance(0, 1, 0, far), far == 1 << 16 ? 0 : -1);
        }
    }

    private void tried() {
        e.by("Promise 33", "TRIED (n 0 .. 99);");
        WeedStrand x = Due.strand("stripe 999;croft a 1 1 0;croft b 1 0 99;field a 9 0;tide 0;law worth 1;");
        for (int what = 0; what < 5; what++) {
            e.is("tried(" + what + ", 0, 0)", x.tried(what, 0, 0), 0);
        }
        e.is("no tides in 99 hours", x.tried(0, 0, 99), 396);
        e.is("a doesn't come in 99 hours", x.tried(1, 0, 99), 0);
        e.is("b doesn't come in 99 hours", x.tried(1, 1, 99), x.tried(4, 0, 99));
        e.is("no hour goes by", x.count(5), 0);
    }

    private void triedNone() {
        e.by("Promise 33", "NONE: no such ones (i 0 of all but 1).");
        WeedStrand x = Due.strand(TRIED);
        for (int what = 0; what < 5; what++) {
            e.is("n -1", x.tried(what, 0, -1), -1);
            e.is("n 100", x.tried(what, 0, 100), -1);
            e.is("i -1, what " + what, x.tried(what, -1, 0), -1);
            e.is("i 1, what " + what, x.tried(what, 1, 0), what == 1 ? 0 : -1);
            e.is("i 2, what " + what, x.tried(what, 2, 0), -1);
            for (int far : Edges.FAR) {
                e.is("n " + far, x.tried(what, 0, far), -1);
                e.is("i " + far, x.tried(what, far, 0), -1);
            }
        }
        e.is("what -1", x.tried(-1, 0, 0), -1);
        e.is("what 5", x.tried(5, 0, 0), -1);
        for (int far : Edges.FAR) {
            e.is("what " + far, x.tried(far, 0, 0), -1);
        }
        e.is("none told", NOTHING.tried(1, 0, 0), -1);
        e.is("none told, no tides", NOTHING.tried(0, 0, 9), 0);
    }
}
