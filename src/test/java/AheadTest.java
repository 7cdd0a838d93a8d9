/** Promises 16 to 27, 32 and 33: what is asked as it goes, lots, odds, gales by chance, and what is tried. */
final class AheadTest {
    private static final Due DUE = new Due("AheadTest");
    private static final String TWO = "stripe 10;stripe 4;croft a 1 0 0;croft b 1 0 1;field a 9 0;field b 8 0;tide 1;heap 2;";
    private static final String FLOOD = "stripe 16;croft a 1 0 0;croft b 1 0 0;field a 99 0;tide 0;law ebb lies;";

    public static void main(String[] args) {
        tables();
        best();
        plans();
        rests();
        unlike();
        swaps();
        lending();
        turns();
        odds();
        chances();
        tried();
        DUE.end();
    }

    private static void table(WeedStrand x, int rule, int n, int... due) {
        for (int what = 0; what < 4; what++) {
            DUE.is("table(" + rule + ", " + n + ", " + what + ")", x.table(rule, n, what), due[what]);
        }
    }

    private static void tables() {
        WeedStrand x = Due.strand(TWO);
        table(x, 0, 0, 0, 0, 2, 0);
        table(x, 0, 1, 5, 0, 2, 45);
        table(x, 0, 2, 14, 0, 2, 97);
        table(x, 1, 2, 14, 0, 2, 97);
        table(x, 2, 2, 0, 0, 16, 0);
        table(x, 2, 3, 10, 0, 6, 85);
        x.act(0, 3);
        x.rule(2);
        table(x, 0, 2, 14, 0, 2, 97);
        x.act(0, 1);
        x.rule(0);
        x.go(1);
        table(x, 0, 1, 9, 0, 2, 52);
        table(x, 2, 1, 0, 0, 11, 0);
        WeedStrand y = Due.strand("stripe 9;stripe 7;tide 2;gale 100 99;");
        table(y, 1, 3, 0, 7, 0, 0);
        y.go(3);
        y.go(20);
        int lying = y.stripe(0, 0) / 2 + y.stripe(1, 0) / 2;
        DUE.is("the sea has some", y.count(8) > 0, true);
        table(y, 1, 4, 0, lying, 0, 0);
        DUE.is("table(3, 1, 0)", x.table(3, 1, 0), -1);
        DUE.is("table(-1, 1, 0)", x.table(-1, 1, 0), -1);
        DUE.is("table(0, -1, 0)", x.table(0, -1, 0), -1);
        DUE.is("table(0, 100, 0)", x.table(0, 100, 0), -1);
        DUE.is("table(0, 99, 1)", x.table(0, 99, 1), 0);
        DUE.is("table(0, 1, 4)", x.table(0, 1, 4), -1);
        DUE.is("table(0, 1, -1)", x.table(0, 1, -1), -1);
        DUE.is("nothing is changed", x.count(5), 1);
        DUE.is("nothing is changed", x.count(10), 45);
    }

    private static void best() {
        DUE.is("of several the first", Due.strand(TWO).best(2), 0);
        WeedStrand x = Due.strand(FLOOD);
        DUE.is("best(0)", x.best(0), 0);
        DUE.is("best(2)", x.best(2), 0);
        DUE.is("best(3)", x.best(3), 2);
        DUE.is("best(99)", x.best(99), 2);
        DUE.is("best(100)", x.best(100), -1);
        DUE.is("best(-1)", x.best(-1), -1);
        x.rule(2);
        DUE.is("whatever the rule is", x.best(2), 0);
        WeedStrand lots = Due.strand("stripe 9;stripe 8;croft a 1 0 0;croft b 1 0 0;field a 1 0;field b 50 0;law load 9;");
        DUE.is("by lots b has less", lots.best(1), 0);
        DUE.is("lots", Due.strand("stripe 8;stripe 9;croft a 1 0 0;croft b 1 0 0;field a 1 0;field b 50 0;law load 9;").best(1), 1);
    }

    private static void plans() {
        WeedStrand x = Due.strand("stripe 16;croft a 1 0 0;field a 99 0;tide 0;law ebb lies;");
        DUE.is("plan(0, 1)", x.plan(0, 1), 495);
        DUE.is("plan(0, 2)", x.plan(0, 2), 495);
        DUE.is("plan(0, 3)", x.plan(0, 3), 777);
        DUE.is("plan(0, 6)", x.plan(0, 6), 777);
        int[] due = {2, 1, 1, 1, 1, 1};
        for (int k = 0; k < 6; k++) {
            DUE.is("planned(0, 6, " + k + ")", x.planned(0, 6, k), due[k]);
            DUE.is("of several the first", x.planned(0, 2, k), k < 2 ? 1 : -2);
        }
        DUE.is("planned(0, 1, 0)", x.planned(0, 1, 0), 1);
        DUE.is("planned(0, 1, 1)", x.planned(0, 1, 1), -2);
        DUE.is("planned(0, 6, 6)", x.planned(0, 6, 6), -2);
        DUE.is("planned(0, 6, -1)", x.planned(0, 6, -1), -1);
        DUE.is("planned(0, 7, 0)", x.planned(0, 7, 0), -1);
        DUE.is("planned(0, 0, 0)", x.planned(0, 0, 0), -1);
        DUE.is("NONE ahead of -2", x.planned(1, 3, 9), -1);
        DUE.is("planned(-1, 1, 0)", x.planned(-1, 1, 0), -1);
        DUE.is("plan(0, 7)", x.plan(0, 7), -1);
        DUE.is("plan(0, 0)", x.plan(0, 0), -1);
        DUE.is("plan(1, 1)", x.plan(1, 1), -1);
        DUE.is("plan(-1, 1)", x.plan(-1, 1), -1);
        x.act(0, 2);
        x.go(1);
        DUE.is("gain more, whatever the act is", x.plan(0, 1), 495);
        x.act(0, 1);
        x.go(1);
        DUE.is("gain more", x.plan(0, 1), 3 * 94);
        WeedStrand y = Due.strand("stripe 10;croft a 1 0 0;croft b 2 0 0;field a 9 0;field b 9 0;");
        DUE.is("others as they are", y.plan(1, 1), 45);
        y.act(0, 3);
        DUE.is("the other rests", y.plan(1, 1), 90);
        WeedStrand z = Due.strand("stripe 10;croft a 1 0 2;field a 9 0;");
        DUE.is("not come yet", z.plan(0, 2), 0);
        DUE.is("come then", z.plan(0, 3), 45);
        DUE.is("all the same ahead", z.planned(0, 3, 0), 1);
    }

    private static void rests() {
        WeedStrand x = Due.strand("stripe 10;croft a 1 0 5;croft b 1 0 7;croft c 0 0 3;field a 9 0;field b 9 0;law worth 10;");
        DUE.is("rests(0, 1, 2)", x.rests(0, 1, 2), 2);
        DUE.is("rest 0", x.rest(0, 1, 2, 0), 0);
        DUE.is("rest 1", x.rest(0, 1, 2, 1), 10);
        DUE.is("rest 2", x.rest(0, 1, 2, 2), -2);
        DUE.is("rest -1", x.rest(0, 1, 2, -1), -1);
        DUE.is("the other way: rest 0", x.rest(1, 0, 2, 0), 0);
        DUE.is("the other way: rest 1", x.rest(1, 0, 2, 1), 1);
        DUE.is("rests(0, 1, 0)", x.rests(0, 1, 0), -1);
        DUE.is("rests(0, 1, 100)", x.rests(0, 1, 100), -1);
        DUE.is("rests(0, 0, 2)", x.rests(0, 0, 2), -1);
        DUE.is("rests(0, 3, 2)", x.rests(0, 3, 2), -1);
        DUE.is("rests(-1, 0, 2)", x.rests(-1, 0, 2), -1);
        DUE.is("rest(0, 0, 2, 99)", x.rest(0, 0, 2, 99), -1);
        DUE.is("rest(0, 1, 0, 0)", x.rest(0, 1, 0, 0), -1);
        DUE.is("no gain for c", x.rests(2, 0, 1), 4);
        x.go(3);
        DUE.is("c comes now", x.rests(2, 0, 1), -1);
        DUE.is("c comes now", x.rests(0, 2, 1), -1);
        DUE.is("from now on", x.rests(0, 1, 2), 2);
        x.go(1);
        DUE.is("c came", x.rests(2, 0, 1), -1);
        DUE.is("a comes by call as ever", x.croft(0, 2), 5);
        x.act(0, 3);
        DUE.is("acts as they are", x.rests(0, 1, 1), 4);
        WeedStrand y = Due.strand("croft a 1 0 1;croft b 1 0 1;");
        DUE.is("all 16", y.rests(0, 1, 99), 16);
        DUE.is("the last one", y.rest(0, 1, 99, 15), 33);
        DUE.is("the fifth", y.rest(0, 1, 99, 4), 10);
    }

    private static void unlike() {
        WeedStrand x = Due.strand("stripe 10;stripe 4;stripe 2;croft a 1 0 9;croft b 1 0 9;");
        DUE.is("unlike", x.unlike(), 8);
        x.lot(0, 1);
        DUE.is("unlike", x.unlike(), 12);
        DUE.is("one croft", Due.strand("stripe 10;croft a 1 0 0;").unlike(), 0);
        DUE.is("no croft", Due.strand("stripe 10;").unlike(), 0);
        DUE.is("one without lots", Due.strand("stripe 10;croft a 1 0 0;croft b 0 0 0;croft c 0 0 0;").unlike(), 10);
    }

    private static void swap(String text, int one, int other, int unlike) {
        WeedStrand x = Due.strand(text);
        DUE.is("swap(0) of " + text, x.swap(0), one);
        DUE.is("swap(1) of " + text, x.swap(1), other);
        DUE.is("swap(2) of " + text, x.swap(2), unlike);
        DUE.is("swap(3) of " + text, x.swap(3), -1);
        DUE.is("swap(-1) of " + text, x.swap(-1), -1);
    }

    private static void swaps() {
        String crofts = "croft a 1 0 9;croft b 1 0 9;";
        swap("stripe 10;stripe 4;stripe 2;" + crofts, 0, 1, 4);
        swap("stripe 5;stripe 1;stripe 5;stripe 1;" + crofts, 0, 1, 0);
        swap("stripe 5;stripe 5;" + crofts, -2, -2, -2);
        swap("stripe 9;stripe 5;" + crofts, -2, -2, -2);
        swap("stripe 9;stripe 5;", -2, -2, -2);
        swap(crofts, -2, -2, -2);
        swap("stripe 9;stripe 1;stripe 9;stripe 4;" + crofts, 0, 1, 3);
        swap("stripe 9;stripe 1;stripe 7;stripe 4;" + crofts, 0, 3, 1);
        swap("stripe 1;stripe 5;stripe 9;" + crofts, 1, 2, 3);
        swap("stripe 2;stripe 1;stripe 8;stripe 1;stripe 5;stripe 1;" + crofts, 1, 2, 2);
        WeedStrand x = Due.strand("stripe 10;stripe 4;stripe 2;" + crofts);
        x.swap(0);
        DUE.is("lots stay", x.unlike(), 8);
    }

    private static void lending(String text, int from, int to, int less, int more, int price) {
        WeedStrand x = Due.strand(text);
        DUE.is("less in " + text, x.lending(from, to, 1, 0), less);
        DUE.is("more in " + text, x.lending(from, to, 1, 1), more);
        DUE.is("price in " + text, x.lending(from, to, 1, 2), price);
        DUE.is("lending(.., 3)", x.lending(from, to, 1, 3), -1);
        DUE.is("lending(.., -1)", x.lending(from, to, 1, -1), -1);
        DUE.is("lending(.., 0, 0)", x.lending(from, to, 0, 0), -1);
        DUE.is("lending(.., 100, 2)", x.lending(from, to, 100, 2), -1);
        DUE.is("the cart stays", x.croft(from, 0) + x.count(14), x.croft(from, 0));
    }

    private static void lending() {
        String steep = "stripe 99;croft a 1 9 0;croft b 1 0 0;field a 50 0;field b 40 0;";
        lending(steep, 0, 1, 0, 200, 1);
        lending(steep, 1, 0, 200, 50, -2);
        String alike = "stripe 99;croft a 1 0 0;croft b 1 0 0;field a 40 0;field b 40 0;";
        lending(alike, 0, 1, 200, 200, -2);
        lending(alike.replace("b 40", "b 41"), 0, 1, 200, 205, 201);
        lending("stripe 99;croft a 2 0 0;croft b 1 0 0;field a 1 0;field b 1 0;law worth 20-carts*10;", 0, 1, 0, 0, -2);
        WeedStrand x = Due.strand("stripe 99;croft a 0 0 0;croft b 5 0 0;croft c 4 0 0;");
        DUE.is("no cart", x.lending(0, 2, 1, 0), -1);
        DUE.is("5 carts", x.lending(2, 1, 1, 0), -1);
        DUE.is("alike", x.lending(2, 2, 1, 0), -1);
        DUE.is("no such one", x.lending(2, 3, 1, 0), -1);
        DUE.is("no such one", x.lending(-1, 2, 1, 0), -1);
        DUE.is("4 carts", x.lending(1, 2, 1, 0), 0);
        WeedStrand y = Due.strand(steep);
        DUE.is("for two hours", y.lending(0, 1, 2, 1), 10 * 40 + 10 * 30 - 5 * 40 - 5 * 35);
    }

    private static void turns() {
        String text = "stripe 20;stripe 6;croft a 0 0 50;croft b 0 0 60;rule lots;";
        WeedStrand x = Due.strand(text);
        DUE.is("turns(1)", x.turns(1), 8);
        DUE.is("turns(2)", x.turns(2), 16);
        DUE.is("turns(3)", x.turns(3), 22);
        DUE.is("turns(4)", x.turns(4), 26);
        int[] due = {0, 0, 1};
        for (int k = 0; k < 3; k++) {
            DUE.is("turn(3, " + k + ")", x.turn(3, k), due[k]);
        }
        DUE.is("turn(3, 3)", x.turn(3, 3), -2);
        DUE.is("turn(3, -1)", x.turn(3, -1), -1);
        DUE.is("turn(5, 9)", x.turn(5, 9), -1);
        DUE.is("turn(0, 0)", x.turn(0, 0), -1);
        DUE.is("turns(0)", x.turns(0), -1);
        DUE.is("turns(5)", x.turns(5), -1);
        DUE.is("no crofts", Due.strand("stripe 9;").turns(1), -1);
        DUE.is("no crofts", Due.strand("stripe 9;").turn(1, 0), -1);
        WeedStrand y = Due.strand("stripe 99;croft a 1 0 0;croft b 1 0 60;field a 9 0;");
        DUE.is("first", y.turn(1, 0), 0);
        y.act(0, 2);
        y.go(1);
        DUE.is("forked in all", y.turn(1, 0), 1);
        DUE.is("forked in all", y.turn(2, 0), 0);
        DUE.is("forked in all", y.turn(2, 1), 1);
        DUE.is("the heap then", y.turns(2), 24);
        DUE.is("acts stay", y.croft(0, 3), 2);
        y.go(1);
        DUE.is("twice the other", y.turn(2, 0), 1);
        DUE.is("twice the other", y.turn(2, 1), 1);
        WeedStrand w = Due.strand("stripe 20;stripe 8;croft a 0 0 0;croft b 0 0 0;rule lots;tide 0;law ebb lies*(lies<9);");
        DUE.is("b ahead of the tide", w.turns(2), 16);
        DUE.is("b ahead of the tide", w.turn(2, 0), 1);
        DUE.is("a behind it", w.turn(2, 1), 0);
        WeedStrand z = Due.strand("stripe 10;croft a 0 0 0;croft b 5 0 0;field b 9 0;tide 0;rule saved;heap 3;");
        DUE.is("others rest, tides take", z.turns(2), 12);
    }

    private static void odds() {
        int[][] due = {{3, 10}, {51, 100}, {657, 1000}, {7599, 10000}};
        WeedStrand x = Due.strand("gale 30 0;");
        for (int k = 1; k <= 4; k++) {
            DUE.is("odds(" + k + ", 0)", x.odds(k, 0), due[k - 1][0]);
            DUE.is("odds(" + k + ", 1)", x.odds(k, 1), due[k - 1][1]);
        }
        DUE.is("odds(0, 0)", x.odds(0, 0), -1);
        DUE.is("odds(5, 1)", x.odds(5, 1), -1);
        DUE.is("odds(1, 2)", x.odds(1, 2), -1);
        DUE.is("odds(1, -1)", x.odds(1, -1), -1);
        DUE.is("surely", Due.strand("gale 100 1;").odds(4, 0), 1);
        DUE.is("surely", Due.strand("gale 100 1;").odds(4, 1), 1);
        DUE.is("never", Due.strand("gale 0 1;").odds(3, 0), 0);
        DUE.is("never", Due.strand("gale 0 1;").odds(3, 1), 1);
        DUE.is("seldom", Due.strand("gale 1 1;").odds(4, 0), 100000000 - 99 * 99 * 99 * 99);
        DUE.is("seldom", Due.strand("gale 1 1;").odds(4, 1), 100000000);
    }

    private static void chances() {
        WeedStrand x = Due.strand("stripe 0;croft a 1 0 0;croft b 1 0 0;field a 10 0;gale 40 5;law worth 1;seed 3;");
        for (int seed : new int[] {0, 1, 99999, 2147483647}) {
            for (int n = 1; n < 12; n += 5) {
                for (int bound = 0; bound <= 30; bound += 5) {
                    DUE.is("chance(" + seed + ", " + n + ", 0, " + bound + ")", x.chance(seed, n, 0, bound),
                        Due.drawn(seed, 40, n, 0, bound));
                }
            }
        }
        DUE.is("b gains nothing", x.chance(1, 9, 1, 1), 0);
        DUE.is("chance(-1, ..)", x.chance(-1, 1, 0, 0), -1);
        DUE.is("n 0", x.chance(0, 0, 0, 0), -1);
        DUE.is("n 100", x.chance(0, 100, 0, 0), -1);
        DUE.is("no such croft", x.chance(0, 1, 2, 0), -1);
        DUE.is("croft -1", x.chance(0, 1, -1, 0), -1);
        DUE.is("bound -1", x.chance(0, 1, 0, -1), -1);
        DUE.is("bound 1000000", x.chance(0, 1, 0, 1000000), -1);
        DUE.is("bound 999999", x.chance(0, 99, 0, 999999), 0);
        WeedStrand y = Due.strand("stripe 0;croft a 1 0 0;croft b 1 0 0;field a 10 0;gale 40 5;law worth 1;seed 3;");
        for (int hour = 0; hour < 20; hour++) {
            x.go(1);
            y.go(1);
            DUE.is("its own numbers go on", x.croft(0, 4), y.croft(0, 4));
            x.chance(5, 3, 0, 1);
        }
        int gain = x.croft(0, 4);
        DUE.is("gain in all", x.chance(8, 2, 0, gain + 5), Due.drawn(8, 40, 2, gain, gain + 5));
        DUE.is("gain in all", x.chance(8, 2, 0, gain), 10);
    }

    private static void tried() {
        String text = "stripe 10;croft a 1 2 0;croft b 1 0 0;field a 10 0;field b 20 0;tide 0;heap 3;law worth wants;";
        WeedStrand x = Due.strand(text);
        DUE.is("as it goes", x.table(0, 2, 3), 200);
        DUE.is("no tides", x.tried(0, 0, 2), 210);
        DUE.is("a doesn't come", x.tried(1, 0, 2), 160);
        DUE.is("b doesn't come", x.tried(1, 1, 2), 60);
        DUE.is("a cart more", x.tried(2, 0, 2), 150);
        DUE.is("no hill", x.tried(3, 0, 2), 180);
        DUE.is("no heap", x.tried(4, 0, 2), 140);
        for (int what = 0; what < 5; what++) {
            DUE.is("no hours", x.tried(what, 0, 0), 0);
            DUE.is("n -1", x.tried(what, 0, -1), -1);
            DUE.is("n 100", x.tried(what, 0, 100), -1);
            DUE.is("i 1 of all but 1", x.tried(what, 1, 0), what == 1 ? 0 : -1);
            DUE.is("i -1", x.tried(what, -1, 0), -1);
        }
        DUE.is("no such croft", x.tried(1, 2, 1), -1);
        DUE.is("tried(5, 0, 1)", x.tried(5, 0, 1), -1);
        DUE.is("tried(-1, 0, 1)", x.tried(-1, 0, 1), -1);
        x.act(0, 3);
        DUE.is("acts as they are", x.tried(4, 0, 1), 100);
        x.act(0, 0);
        x.go(1);
        DUE.is("gains more", x.tried(0, 0, 1), 70);
        DUE.is("one that came doesn't come", x.tried(1, 1, 1), 10);
        DUE.is("tides are as ever", x.count(8), 1);
        WeedStrand y = Due.strand("stripe 99;croft a 5 0 0;field a 9 0;law worth 1;");
        DUE.is("6 carts", y.tried(2, 0, 1), 30);
        DUE.is("carts stay", y.croft(0, 0), 5);
    }
}
