/** Promises 28 to 31: what was seen, strikes, by how many it is known, and when one came by that. */
final class SeenTest {
    private static final Due DUE = new Due("SeenTest");
    private static final int ALL = 0xffffff;
    // one croft, that forks 8 an hour from its coming on
    private static final String ONE = "stripe 999;croft a 1 0 3;rule saved;";

    public static void main(String[] args) {
        numbers();
        cames();
        lessAndMore();
        strikes();
        knowns();
        fromTheText();
        DUE.end();
    }

    private static void numbers() {
        WeedStrand x = Due.strand(ONE);
        DUE.is("hours 0", x.see(0, 1, true), -1);
        DUE.is("hours 100", x.see(100, 1, true), -1);
        DUE.is("tons -1", x.see(1, -1, true), -1);
        DUE.is("tons 10000", x.see(1, 10000, true), -1);
        DUE.is("nothing to strike", x.strike(0), -1);
        DUE.is("none seen", x.count(12), 0);
        DUE.is("first", x.see(1, 0, true), 0);
        DUE.is("second", x.see(99, 9999, false), 1);
        DUE.is("strike(2)", x.strike(2), -1);
        DUE.is("strike(-1)", x.strike(-1), -1);
        DUE.is("strike(1)", x.strike(1), 2);
        DUE.is("strike of a strike", x.strike(2), 3);
        for (int i = 4; i < 24; i++) {
            DUE.is("see " + i, x.see(5, 5, true), i);
        }
        DUE.is("there are 24", x.see(5, 5, true), -1);
        DUE.is("there are 24", x.strike(0), -1);
        DUE.is("seen", x.count(12), 24);
        DUE.is("known by all", x.count(13), 24);
        DUE.is("no such croft", x.came(1), -1);
        DUE.is("croft -1", x.came(-1), -1);
        DUE.is("no croft", new WeedStrand().came(0), -1);
        DUE.is("seen without a text", new WeedStrand().see(1, 1, true), 0);
    }

    private static int bits(int from, int to) {
        int bits = 0;
        for (int hour = from; hour <= to; hour++) {
            bits |= 1 << hour;
        }
        return bits;
    }

    private static void cames() {
        WeedStrand x = Due.strand(ONE);
        DUE.is("nothing known", x.came(0), ALL);
        x.see(10, 40, true);
        DUE.is("five hours at least", x.came(0), bits(0, 5));
        x.see(12, 64, false);
        DUE.is("less than eight hours", x.came(0), bits(5, 5));
        x.see(5, 1, true);
        DUE.is("not so", x.came(0), 0);
        WeedStrand y = Due.strand(ONE);
        y.see(23, 1, false);
        DUE.is("behind hour 22", y.came(0), bits(23, 23));
        WeedStrand z = Due.strand(ONE + "croft b 1 0 2;");
        z.see(4, 17, true);
        DUE.is("a with b from 2 on", z.came(0), bits(0, 3));
        DUE.is("b with a from 3 on", z.came(1), bits(0, 2));
    }

    private static void lessAndMore() {
        WeedStrand x = Due.strand(ONE);
        x.see(4, 8, true);
        DUE.is("8 at least", x.came(0), bits(0, 3));
        x.see(4, 8, false);
        DUE.is("8 isn't less than 8", x.came(0), 0);
        x.strike(0);
        DUE.is("less than 8", x.came(0), bits(4, 23));
        WeedStrand y = Due.strand(ONE);
        y.see(1, 0, false);
        DUE.is("never less than 0", y.came(0), 0);
        y.strike(0);
        y.see(99, 999, true);
        DUE.is("all of it behind 99 hours", y.came(0), 0);
        y.strike(2);
        y.see(99, 784, true);
        DUE.is("behind 99 hours", y.came(0), bits(0, 1));
    }

    private static void strikes() {
        WeedStrand x = Due.strand(ONE);
        x.see(4, 8, true);
        x.strike(0);
        DUE.is("struck", x.came(0), ALL);
        x.strike(1);
        DUE.is("the strike is struck", x.came(0), bits(0, 3));
        x.strike(2);
        DUE.is("the strike of the strike is struck", x.came(0), ALL);
        x.strike(0);
        x.strike(3);
        DUE.is("struck by another one, too", x.came(0), ALL);
        x.strike(4);
        DUE.is("that one is struck", x.came(0), bits(0, 3));
    }

    private static void knowns() {
        WeedStrand x = Due.strand(ONE);
        DUE.is("known(0)", x.known(0), true);
        DUE.is("known(1)", x.known(1), false);
        DUE.is("known(-2)", x.known(-2), false);
        x.see(4, 8, true);
        x.see(4, 16, true);
        x.strike(0);
        DUE.is("by none", x.came(0), ALL);
        DUE.is("count", x.count(13), 0);
        DUE.is("known(1)", x.known(1), true);
        DUE.is("by the first", x.came(0), bits(0, 3));
        DUE.is("known(3)", x.known(3), true);
        DUE.is("so already", x.known(3), true);
        DUE.is("by three", x.came(0), bits(0, 2));
        x.see(4, 24, true);
        DUE.is("still by three", x.came(0), bits(0, 2));
        DUE.is("count", x.count(13), 3);
        DUE.is("known(5)", x.known(5), false);
        DUE.is("known(4)", x.known(4), true);
        DUE.is("by four", x.came(0), bits(0, 1));
        DUE.is("known(-1)", x.known(-1), true);
        x.see(4, 32, true);
        DUE.is("by all", x.came(0), bits(0, 0));
        DUE.is("count", x.count(13), 5);
    }

    private static void fromTheText() {
        WeedStrand x = Due.strand(ONE + "gale 100 50;");
        x.act(0, 1);
        x.rule(0);
        x.go(30);
        x.see(4, 8, true);
        DUE.is("acts 0, rule as told, no gales", x.came(0), bits(0, 3));
        DUE.is("the strand stays", x.count(5), 30);
        DUE.is("its own hour stays", x.croft(0, 2), 3);
        WeedStrand y = Due.strand("stripe 0;stripe 90;croft a 1 0 0;croft b 1 0 0;rule lots;heap 5;field a 9 0;");
        y.lot(1, 0);
        y.lend(1, 0);
        y.see(1, 1, true);
        DUE.is("lots and carts as told", y.came(0), bits(1, 23));
    }
}
