/** Promises 6 to 15: what is told of stripes, crofts, fields, sources and laws, the calls that change, and hours that go by. */
final class HourTest {
    private static final Due DUE = new Due("HourTest");
    private static final String SHORE = "stripe 20;stripe 30;stripe 30;croft a 2 1 0;croft b 1 0 2;"
        + "field a 50 1;field a 60 2;field b 10 3;tide 1;heap 4;";

    public static void main(String[] args) {
        stripes();
        crofts();
        fields();
        sources();
        laws();
        lawNames();
        acts();
        rules();
        lots();
        lending();
        hoursByHand();
        loads();
        forks();
        ebbs();
        worths();
        restsAndRules();
        coming();
        goes();
        gales();
        DUE.end();
    }

    private static void stripes() {
        WeedStrand x = Due.strand(SHORE);
        DUE.is("lies 1", x.stripe(1, 0), 30);
        DUE.is("lot 0", x.stripe(0, 1), 0);
        DUE.is("lot 1", x.stripe(1, 1), 1);
        DUE.is("lot 2", x.stripe(2, 1), 0);
        DUE.throwing("stripe(3, 0)", () -> x.stripe(3, 0), "IndexOutOfBoundsException");
        DUE.throwing("stripe(-1, 0)", () -> x.stripe(-1, 0), "IndexOutOfBoundsException");
        DUE.throwing("stripe(0, 2)", () -> x.stripe(0, 2), "NoSuchElementException");
        DUE.throwing("stripe(0, -1)", () -> x.stripe(0, -1), "NoSuchElementException");
        DUE.throwing("stripe(3, 2)", () -> x.stripe(3, 2), "IndexOutOfBoundsException");
        DUE.throwing("stripe(least, 5)", () -> x.stripe(Integer.MIN_VALUE, 5), "IndexOutOfBoundsException");
        WeedStrand y = Due.strand("stripe 5;stripe 6;");
        DUE.is("lot of none", y.stripe(1, 1), -1);
        WeedStrand z = Due.strand("stripe 1;croft a 1 1 1;stripe 2;croft b 1 1 1;stripe 3;croft c 1 1 1;stripe 4;");
        for (int s = 0; s < 4; s++) {
            DUE.is("lots by all crofts " + s, z.stripe(s, 1), s % 3);
        }
    }

    private static void crofts() {
        WeedStrand x = Due.strand(SHORE);
        int[] a = {2, 1, 0, 0, 0, 0, 50, -1};
        int[] b = {1, 0, 2, 0, 0, 0, 30, -1};
        for (int what = 0; what < 8; what++) {
            DUE.is("croft(0, " + what + ")", x.croft(0, what), a[what]);
            DUE.is("croft(1, " + what + ")", x.croft(1, what), b[what]);
        }
        DUE.is("croft(0, -1)", x.croft(0, -1), -1);
        DUE.is("croft(2, 0)", x.croft(2, 0), -1);
        DUE.is("croft(-1, 0)", x.croft(-1, 0), -1);
    }

    private static void fields() {
        WeedStrand x = Due.strand(SHORE);
        int[] second = {0, 60, 2, 0, 60, -1};
        int[] third = {1, 10, 3, 0, 10, -1};
        for (int what = 0; what < 6; what++) {
            DUE.is("field(1, " + what + ")", x.field(1, what), second[what]);
            DUE.is("field(2, " + what + ")", x.field(2, what), third[what]);
        }
        DUE.is("field(0, -1)", x.field(0, -1), -1);
        DUE.is("field(3, 0)", x.field(3, 0), -1);
        DUE.is("field(-1, 0)", x.field(-1, 0), -1);
    }

    private static void sources() {
        WeedStrand x = Due.strand(SHORE);
        DUE.is("free to cart", x.source(0, 0), 1);
        DUE.is("free to fork", x.source(1, 1), 1);
        x.rule(1);
        DUE.is("lots to cart", x.source(0, 0), 2);
        DUE.is("lots to fork", x.source(0, 1), 2);
        DUE.is("lots of the other", x.source(1, 0), 1);
        x.rule(2);
        DUE.is("saved to cart", x.source(0, 0), -3);
        DUE.is("saved to fork", x.source(0, 1), 1);
        DUE.is("source(0, 2)", x.source(0, 2), -1);
        DUE.is("source(0, -1)", x.source(0, -1), -1);
        DUE.is("source(2, 0)", x.source(2, 0), -1);
        DUE.is("source(-1, 0)", x.source(-1, 0), -1);
        WeedStrand y = Due.strand("stripe 0;stripe 7;croft a 1 1 1;croft b 1 1 1;heap 1;rule lots;");
        DUE.is("nothing on the lots: the heap", y.source(0, 0), -3);
        DUE.is("nothing on the lots: none to fork", y.source(0, 1), -2);
        WeedStrand z = Due.strand("stripe 0;stripe 7;croft a 1 1 1;croft b 1 1 1;rule lots;");
        DUE.is("no heap: none", z.source(0, 0), -2);
        z.rule(2);
        DUE.is("saved without a heap", z.source(0, 0), 1);
        WeedStrand w = Due.strand("stripe 0;croft a 1 1 1;heap 2;");
        DUE.is("free, nothing lies: the heap", w.source(0, 0), -3);
        DUE.is("free, nothing to fork", w.source(0, 1), -2);
        w.rule(2);
        DUE.is("saved, nothing to fork", w.source(0, 1), -2);
    }

    private static void laws() {
        long error = Long.MIN_VALUE;
        WeedStrand x = Due.strand("stripe 20;stripe 8;croft a 2 1 0;croft b 3 4 5;field b 50 6;heap 9;"
            + "law load lies+carts*100+hill*1000;law fork lies*9999;law ebb 0-lies;law worth sort/got;");
        DUE.is("load at a stripe", x.law(0, 1, 1), 4308);
        DUE.is("load at the heap", x.law(0, 0, -3), 1209);
        DUE.is("fork", x.law(1, 1, 0), 199980);
        DUE.is("fork at the heap", x.law(1, 1, -3), error);
        DUE.is("ebb is not put", x.law(2, 1, 0), -8);
        DUE.is("ebb looks at one number", x.law(2, 0, 77), -20);
        DUE.is("worth in error", x.law(3, 0, -5), error);
        DUE.is("no such croft", x.law(0, 2, 0), error);
        DUE.is("croft -1", x.law(1, -1, 0), error);
        DUE.is("no such croft at the heap", x.law(0, 2, -3), error);
        DUE.is("no such stripe", x.law(0, 0, 2), error);
        DUE.is("stripe -1", x.law(0, 0, -1), error);
        DUE.is("stripe -2", x.law(0, 0, -2), error);
        DUE.is("no such stripe of ebb", x.law(2, 2, 0), error);
        DUE.is("no such field", x.law(3, 1, 0), error);
        DUE.is("field -1", x.law(3, -1, 0), error);
        DUE.is("no such law", x.law(4, 0, 0), error);
        DUE.is("law -1", x.law(-1, 0, 0), error);
        x.go(1);
        DUE.is("worth", x.law(3, 0, -5), error);
        WeedStrand y = Due.strand("stripe 20;croft a 2 1 0;field a 5 5;");
        for (int what = 0; what < 4; what++) {
            DUE.is("law not told " + what, y.law(what, 0, 0), error);
        }
    }

    private static void lawNames() {
        String all = "((((((sort*10+wants)*10+got)*10+hour)*10+hill)*10+carts)*10+lies)";
        WeedStrand x = Due.strand("stripe 7;croft a 2 1 9;field a 5 6;heap 8;law load " + all + ";");
        DUE.is("load", x.law(0, 0, 0), 127);
        DUE.is("load, heap", x.law(0, 0, -3), 128);
        x.go(26);
        DUE.is("load at the hour of the day", x.law(0, 0, 0), 2100 + 20);
        WeedStrand y = Due.strand("stripe 7;croft a 2 1 9;field a 5 6;heap 8;law fork " + all + ";");
        y.go(3);
        DUE.is("fork", y.law(1, 0, 0), 3127);
        WeedStrand z = Due.strand("stripe 7;croft a 2 1 9;field a 5 6;heap 8;law ebb " + all + ";");
        z.go(4);
        DUE.is("ebb", z.law(2, 0, 0), 4007);
        WeedStrand w = Due.strand("stripe 7;croft b 5 5 9;croft a 2 1 0;field a 5 6;heap 8;law worth " + all + ";law load 3;");
        w.go(1);
        DUE.is("worth", w.law(3, 0, 0), 6531120);
    }

    private static void acts() {
        WeedStrand x = Due.strand(SHORE);
        DUE.is("act(0, 0) is so", x.act(0, 0), false);
        DUE.is("act(0, 3)", x.act(0, 3), true);
        DUE.is("its act", x.croft(0, 3), 3);
        DUE.is("the other's act", x.croft(1, 3), 0);
        DUE.is("act(0, 3) is so", x.act(0, 3), false);
        DUE.is("act(0, 4)", x.act(0, 4), false);
        DUE.is("act(0, -1)", x.act(0, -1), false);
        DUE.is("act(2, 1)", x.act(2, 1), false);
        DUE.is("act(-1, 1)", x.act(-1, 1), false);
        DUE.is("act(0, 0)", x.act(0, 0), true);
        x.act(0, 2);
        x.go(1);
        DUE.is("the act lasts", x.croft(0, 3), 2);
    }

    private static void rules() {
        WeedStrand x = Due.strand(SHORE);
        DUE.is("rule(0) is so", x.rule(0), false);
        DUE.is("rule(3)", x.rule(3), false);
        DUE.is("rule(-1)", x.rule(-1), false);
        DUE.is("rule(2)", x.rule(2), true);
        DUE.is("the rule", x.count(11), 2);
        DUE.is("rule(2) is so", x.rule(2), false);
        DUE.is("rule told", Due.strand("rule lots;").count(11), 1);
        DUE.is("rule told", Due.strand("rule saved;").count(11), 2);
        DUE.is("rule told", Due.strand("rule free;").count(11), 0);
    }

    private static void lots() {
        WeedStrand x = Due.strand(SHORE);
        DUE.is("lot(0, 0) is so", x.lot(0, 0), false);
        DUE.is("lot(0, 1)", x.lot(0, 1), true);
        DUE.is("whose", x.stripe(0, 1), 1);
        DUE.is("on lots of a", x.croft(0, 6), 30);
        DUE.is("on lots of b", x.croft(1, 6), 50);
        DUE.is("lot(3, 0)", x.lot(3, 0), false);
        DUE.is("lot(-1, 0)", x.lot(-1, 0), false);
        DUE.is("lot(0, 2)", x.lot(0, 2), false);
        DUE.is("lot(0, -1)", x.lot(0, -1), false);
        DUE.is("without crofts", Due.strand("stripe 1;").lot(0, -1), false);
    }

    private static void lending() {
        WeedStrand x = Due.strand("croft a 1 0 0;croft b 4 0 0;croft c 5 0 0;");
        DUE.is("lend(0, 0)", x.lend(0, 0), false);
        DUE.is("lend(0, 3)", x.lend(0, 3), false);
        DUE.is("lend(3, 0)", x.lend(3, 0), false);
        DUE.is("lend(-1, 0)", x.lend(-1, 0), false);
        DUE.is("lend(0, -1)", x.lend(0, -1), false);
        DUE.is("lend to 5", x.lend(0, 2), false);
        DUE.is("lend(0, 1)", x.lend(0, 1), true);
        DUE.is("carts of a", x.croft(0, 0), 0);
        DUE.is("carts of b", x.croft(1, 0), 5);
        DUE.is("it has none", x.lend(0, 1), false);
        DUE.is("lend(2, 0)", x.lend(2, 0), true);
        DUE.is("for good", x.go(3), 3);
        DUE.is("carts of c", x.croft(2, 0), 4);
        DUE.is("carts of a", x.croft(0, 0), 1);
    }

    private static void lies(WeedStrand x, String when, int... due) {
        for (int s = 0; s < due.length; s++) {
            DUE.is(when + ": lies on " + s, x.stripe(s, 0), due[s]);
        }
    }

    private static void hoursByHand() {
        WeedStrand x = Due.strand(SHORE);
        DUE.is("go(1)", x.go(1), 1);
        lies(x, "hour 1", 20, 21, 30);
        DUE.is("gain at 60", x.croft(0, 4), 540);
        DUE.is("got", x.field(1, 3), 9);
        DUE.is("worth then", x.field(1, 4), 51);
        DUE.is("b didn't come", x.croft(1, 4), 0);
        x.go(1);
        lies(x, "hour 2, behind a tide", 10, 11, 11);
        DUE.is("sea", x.count(8), 30);
        DUE.is("gain at 51", x.croft(0, 4), 999);
        x.go(1);
        lies(x, "hour 3", 10, 2, 6);
        DUE.is("gain at 50", x.croft(0, 4), 1449);
        DUE.is("b came", x.croft(1, 4), 50);
        DUE.is("field 0", x.field(0, 3), 9);
        DUE.is("field 2", x.field(2, 3), 5);
        DUE.is("all that lies", x.count(6), 18);
        DUE.is("the heap is left", x.count(7), 4);
        DUE.is("fields got", x.count(9), 32 - 9 + 9);
        DUE.is("all gains", x.count(10), 1499);
        DUE.is("the hour", x.count(5), 3);
        x.go(99);
        lies(x, "hour 102", 0, 0, 0);
        DUE.is("the heap is carted last", x.count(7), 0);
        DUE.is("all is somewhere", x.count(8) + x.count(9), 84);
    }

    private static WeedStrand behind(String text, int hours) {
        WeedStrand x = Due.strand(text);
        x.go(hours);
        return x;
    }

    private static void loads() {
        DUE.is("5 carts, no hill", behind("stripe 99;croft a 5 0 0;field a 9 0;", 1).field(0, 3), 25);
        DUE.is("0 at least", behind("stripe 99;croft a 1 9 0;field a 9 0;", 1).field(0, 3), 0);
        DUE.is("no more than there is", behind("stripe 3;croft a 5 0 0;field a 9 0;", 1).field(0, 3), 3);
        DUE.is("no more than the heap", behind("croft a 5 0 0;field a 9 0;heap 2;", 1).field(0, 3), 2);
        DUE.is("99 at most", behind("stripe 999;croft a 5 0 0;field a 9 0;law load 9999;", 1).field(0, 3), 99);
        DUE.is("0 at least", behind("stripe 999;croft a 5 0 0;field a 9 0;law load 0-9999;", 1).field(0, 3), 0);
        DUE.is("an error", behind("stripe 999;croft a 5 1 0;field a 9 0;law load 1/0;", 1).field(0, 3), 24);
        DUE.is("by a law", behind("stripe 999;croft a 5 1 0;field a 9 0;law load lies/100+hill;", 1).field(0, 3), 10);
        DUE.is("heap by a law", behind("stripe 999;croft a 5 1 0;field a 9 0;heap 40;rule saved;law load lies/2;", 0).source(0, 0), -3);
        DUE.is("without fields it stays", behind("stripe 9;croft a 5 0 0;croft b 0 0 9;field b 9 0;", 1).stripe(0, 0), 9);
        WeedStrand x = behind("stripe 99;croft a 1 0 0;field a 3 0;field a 2 0;", 1);
        DUE.is("gain by the worth ahead", x.croft(0, 4), 15);
        x.go(1);
        DUE.is("then the other field", x.field(1, 3), 5);
        x.go(1);
        DUE.is("of several worth nothing the first", x.field(0, 3), 10);
        DUE.is("it gains nothing", x.croft(0, 4), 25);
    }

    private static void forks() {
        WeedStrand x = Due.strand("stripe 20;stripe 9;croft a 1 0 0;croft b 0 0 0;field a 9 0;rule lots;");
        x.act(0, 2);
        x.act(1, 2);
        x.go(1);
        lies(x, "8 without a law", 12, 1);
        DUE.is("heap", x.count(7), 16);
        x.go(1);
        lies(x, "no more than lies", 4, 0);
        DUE.is("forked 0", x.croft(0, 5), 16);
        DUE.is("forked 1", x.croft(1, 5), 9);
        x.go(1);
        DUE.is("nothing on its lots to fork", x.croft(1, 5), 9);
        DUE.is("no gain by forking", x.count(10), 0);
        String text = "stripe 400;croft a 3 2 0;heap 7;law fork ";
        String[] laws = {"999", "0-1", "1/0", "lies/100+carts*10+hill", "0"};
        int[] due = {99, 0, 8, 36, 0};
        for (int i = 0; i < laws.length; i++) {
            WeedStrand y = Due.strand(text + laws[i] + ";");
            y.act(0, 2);
            y.go(1);
            DUE.is("fork by " + laws[i], y.croft(0, 5), due[i]);
            DUE.is("heap by " + laws[i], y.count(7), 7 + due[i]);
            DUE.is("lies by " + laws[i], y.stripe(0, 0), 400 - due[i]);
        }
    }

    private static void ebbs() {
        String text = "stripe 11;stripe 40;tide 0;tide 5;law ebb ";
        String[] laws = {"lies/10", "99", "0-3", "1/0", "hour+1", "carts+hill+got+wants+sort", "1/(lies-11)"};
        int[] first = {1, 11, 0, 5, 1, 0, 5};
        int[] second = {4, 40, 0, 20, 1, 0, 0};
        for (int i = 0; i < laws.length; i++) {
            WeedStrand x = behind(text + laws[i] + ";", 1);
            lies(x, laws[i], 11 - first[i], 40 - second[i]);
            DUE.is("sea by " + laws[i], x.count(8), first[i] + second[i]);
        }
        WeedStrand x = behind("stripe 100;tide 5;tide 23;", 5);
        DUE.is("no tide yet", x.stripe(0, 0), 100);
        x.go(1);
        DUE.is("tide at 5", x.stripe(0, 0), 50);
        x.go(18);
        DUE.is("tide at 23", x.stripe(0, 0), 25);
        x.go(6);
        DUE.is("tide at 5 of the next day", x.stripe(0, 0), 13);
        WeedStrand y = behind("stripe 10;croft a 1 0 0;field a 9 0;tide 0;", 1);
        DUE.is("acts go ahead of the tide", y.field(0, 3), 5);
        DUE.is("half of what is left", y.stripe(0, 0), 3);
        WeedStrand z = behind("stripe 10;heap 10;tide 0;", 1);
        DUE.is("no tide takes the heap", z.count(7), 10);
    }

    private static void worths() {
        String text = "stripe 99;croft b 4 4 4;croft a 2 1 0;field a 30 7;field a 50 3;law worth ";
        String[] laws = {"sort", "999", "0-1", "1/0", "carts*10+hill", "lies", "wants-got*2", "10/(sort-3)"};
        int[] first = {7, 99, 0, 30, 21, 0, 30, 2};
        int[] second = {3, 99, 0, 50, 21, 0, 50, 50};
        for (int i = 0; i < laws.length; i++) {
            WeedStrand x = Due.strand(text + laws[i] + ";");
            DUE.is("worth by " + laws[i], x.field(0, 4), first[i]);
            DUE.is("worth by " + laws[i], x.field(1, 4), second[i]);
            x.go(1);
            int into = first[i] >= second[i] ? 0 : 1;
            DUE.is("field by " + laws[i], x.field(into, 3), 9);
            DUE.is("no other by " + laws[i], x.field(1 - into, 3), 0);
            DUE.is("gain by " + laws[i], x.croft(1, 4), 9 * Math.max(first[i], second[i]));
        }
        WeedStrand y = Due.strand("croft a 1 1 0;field a 5 5;law worth hour;");
        y.go(25);
        DUE.is("hour of the day", y.field(0, 4), 1);
        WeedStrand z = behind("stripe 99;croft a 2 0 0;field a 5 5;", 1);
        DUE.is("wants less got, 0 at least", z.field(0, 4), 0);
    }

    private static void restsAndRules() {
        String text = "stripe 9;stripe 3;croft a 1 0 0;croft b 1 0 0;field a 9 0;field b 8 0;";
        WeedStrand x = Due.strand(text);
        x.act(0, 3);
        x.go(1);
        DUE.is("it rests", x.croft(0, 4), 0);
        DUE.is("the other carts", x.croft(1, 4), 40);
        WeedStrand y = Due.strand(text + "rule lots;");
        y.act(1, 1);
        y.go(1);
        lies(y, "by lots", 4, 0);
        WeedStrand z = Due.strand(text + "rule saved;");
        z.go(1);
        lies(z, "saved: both fork", 1, 0);
        DUE.is("heap", z.count(7), 11);
        z.go(1);
        lies(z, "saved: the first forks the last", 0, 0);
        DUE.is("forked", z.croft(0, 5), 9);
        DUE.is("then the second carts of the heap", z.count(7), 7);
        DUE.is("its gain", z.croft(1, 4), 40);
        WeedStrand w = Due.strand(text + "rule saved;heap 2;");
        w.act(0, 1);
        w.act(1, 1);
        w.go(1);
        DUE.is("carts of the heap first", w.field(0, 3), 2);
        DUE.is("then of the stripe", w.field(1, 3), 5);
        lies(w, "the stripe with most", 4, 3);
        WeedStrand v = Due.strand(text);
        v.act(0, 2);
        v.go(1);
        lies(v, "free: forks, the next carts", 1, 0);
        DUE.is("forked", v.count(7), 8);
    }

    private static void coming() {
        WeedStrand x = Due.strand("stripe 99;croft a 1 0 2;field a 9 0;");
        x.go(2);
        DUE.is("not yet", x.field(0, 3), 0);
        x.go(1);
        DUE.is("at its hour", x.field(0, 3), 5);
        x.go(1);
        DUE.is("and behind it", x.field(0, 3), 10);
    }

    private static void goes() {
        WeedStrand x = new WeedStrand();
        DUE.is("go(-1)", x.go(-1), -1);
        DUE.is("go(100)", x.go(100), -1);
        DUE.is("go(0)", x.go(0), 0);
        for (int i = 1; i <= 101; i++) {
            DUE.is("go(99)", x.go(99), 99 * i);
        }
        DUE.is("9999", x.count(5), 9999);
        DUE.is("behind 9999", x.go(1), -1);
        DUE.is("none goes by", x.count(5), 9999);
        DUE.is("go(0)", x.go(0), 9999);
        DUE.is("ahead of it as it goes", x.table(0, 99, 3), 0);
    }

    private static void gales() {
        // by the numbers from 0 on: 12345 by 65536 is 0, and 0 is below 1
        WeedStrand x = Due.strand("stripe 5;stripe 0;gale 1 7;");
        x.go(1);
        lies(x, "a gale", 12, 7);
        WeedStrand y = Due.strand("stripe 5;gale 0 7;");
        y.go(50);
        lies(y, "no odds", 5);
        WeedStrand z = Due.strand("stripe 900;gale 100 99;");
        z.go(91);
        lies(z, "every hour", 900 + 91 * 99);
        z.go(1);
        lies(z, "9999 at most", 9999);
        long number = 77;
        int lies = 0;
        WeedStrand w = Due.strand("stripe 0;gale 30 3;seed 77;");
        for (int hour = 1; hour <= 60; hour++) {
            number = number * 1103515245L + 12345L & 0x7fffffffL;
            lies += (number >> 16) % 100 < 30 ? 3 : 0;
            w.go(1);
            lies(w, "hour " + hour, lies);
        }
        WeedStrand v = Due.strand("stripe 0;croft a 1 0 0;field a 9 0;gale 100 3;tide 0;");
        v.go(1);
        DUE.is("gales go ahead of acts", v.field(0, 3), 3);
    }
}
