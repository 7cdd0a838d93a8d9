/** Of Terms 3 what is SEEN, STRUCK and KNOWN and when one CAME, and promises 28 to 31. */
final class EdgesOfSeen {
    private static final String TERMS = "Terms 3";
    private static final int ALL = 0xffffff;
    // one croft, that forks 8 an hour from its coming on
    private static final String FORKER = "stripe 999;croft a 1 0 3;rule saved;";

    private final Edges e;

    EdgesOfSeen(Edges edges) {
        e = edges;
    }

    void all() {
        seenAtMost();
        seenBehindHours();
        seenAtLeastOrLess();
        seenFromTheText();
        struck();
        knownByN();
        strikesOfStrikes();
        cameHours();
        cameByAll();
        see();
        seeNone();
        strike();
        strikeNone();
        known();
        knownFalse();
        came();
        cameNone();
    }

    private static int hours(int from, int to) {
        int bits = 0;
        for (int hour = from; hour <= to; hour++) {
            bits |= 1 << hour;
        }
        return bits;
    }

    private void seenAtMost() {
        e.by(TERMS, "SEEN, at most 24, numbered from 0 on:");
        WeedStrand x = Due.strand(FORKER);
        for (int i = 0; i < 24; i++) {
            e.is("number " + i, i % 3 == 2 ? x.strike(i - 1) : x.see(1, 0, true), i);
        }
        e.is("a 25th", x.see(1, 0, true), -1);
        e.is("a 25th strike", x.strike(0), -1);
        e.is("there are 24", x.count(12), 24);
        e.is("came", x.came(0), ALL);
        Due.tell(x, FORKER);
        e.is("from 0 on behind a text", x.see(1, 0, true), 0);
    }

    private void seenBehindHours() {
        e.by(TERMS, "behind so many HOURS 1 .. 99");
        WeedStrand x = Due.strand(FORKER);
        x.see(1, 8, true);
        e.is("8 behind 1 hour", x.came(0), hours(0, 0));
        x.strike(0);
        x.see(2, 8, true);
        e.is("8 behind 2 hours", x.came(0), hours(0, 1));
        x.strike(2);
        x.see(99, 99 * 8, true);
        e.is("99 times 8 behind 99 hours", x.came(0), hours(0, 0));
        x.strike(4);
        x.see(99, 98 * 8, true);
        e.is("98 times 8 behind 99 hours", x.came(0), hours(0, 1));
        WeedStrand y = Due.strand("stripe 8;croft a 5 0 3;croft b 2 0 0;field b 9 0;rule saved;");
        y.see(1, 8, true);
        y.see(2, 1, false);
        e.is("each at its hour", y.came(1), hours(0, 0));
    }

    private void seenAtLeastOrLess() {
        e.by(TERMS, "at least so much was on the HEAP, or less.");
        WeedStrand x = Due.strand(FORKER);
        x.see(4, 16, true);
        e.is("16 at least", x.came(0), hours(0, 2));
        x.strike(0);
        x.see(4, 17, true);
        e.is("17 at least", x.came(0), hours(0, 1));
        x.strike(2);
        x.see(4, 16, false);
        e.is("less than 16", x.came(0), hours(3, 23));
        x.strike(4);
        x.see(4, 17, false);
        e.is("less than 17", x.came(0), hours(2, 23));
        for (int tons = 0; tons <= 33; tons++) {
            int bits = 0;
            for (int hour = 0; hour < 24; hour++) {
                bits |= 8 * Math.max(0, 4 - hour) >= tons ? 1 << hour : 0;
            }
            WeedStrand least = Due.strand(FORKER);
            least.see(4, tons, true);
            e.is(tons + " at least", least.came(0), bits);
            WeedStrand less = Due.strand(FORKER);
            less.see(4, tons, false);
            e.is("less than " + tons, less.came(0), ALL & ~bits);
        }
        WeedStrand y = Due.strand(FORKER);
        y.see(4, 0, true);
        e.is("0 at least", y.came(0), ALL);
        y.see(4, 0, false);
        e.is("less than 0", y.came(0), 0);
        WeedStrand z = Due.strand(FORKER + "heap 9;");
        z.see(1, 9, true);
        e.is("the heap told", z.came(0), ALL);
        z.see(1, 10, true);
        e.is("and more", z.came(0), hours(0, 0));
    }

    private void seenFromTheText() {
        e.by(TERMS, "(as it goes from the TEXT on, ACTS 0, rule as told)");
        WeedStrand x = Due.strand("stripe 99;stripe 0;croft a 1 0 0;croft b 1 0 50;field a 9 0;rule saved;gale 100 50;tide 2;heap 2;");
        x.act(0, 1);
        x.rule(0);
        x.lot(0, 1);
        x.lend(0, 1);
        x.go(30);
        x.see(4, 2 + 32, true);
        x.see(4, 2 + 33, false);
        e.is("whatever was done since", x.came(0), hours(0, 0));
        e.is("hour 30 stays", x.count(5), 30);
        e.is("act 1 stays", x.croft(0, 3), 1);
        e.is("its own hour stays", x.croft(0, 2), 0);
        WeedStrand y = Due.strand("stripe 0;stripe 90;croft a 1 0 0;croft b 1 0 0;rule lots;heap 5;field a 9 0;");
        y.see(1, 1, true);
        int told = y.came(0);
        e.is("by lots a carts of the heap", told, hours(1, 23));
        y.lot(1, 0);
        y.lend(0, 1);
        e.is("lots and carts as told", y.came(0), told);
        y.keep();
        y.go(9);
        y.back();
        e.is("an image changes nothing", y.came(0), told);
    }

    private void struck() {
        e.by(TERMS, "A STRIKE of one.");
        WeedStrand x = Due.strand(FORKER);
        x.see(4, 8, true);
        x.see(4, 16, true);
        e.is("by both", x.came(0), hours(0, 2));
        e.is("strike(1)", x.strike(1), 2);
        e.is("by the first", x.came(0), hours(0, 3));
        e.is("strike(1) once more", x.strike(1), 3);
        e.is("by the first", x.came(0), hours(0, 3));
        e.is("strike(0)", x.strike(0), 4);
        e.is("by none", x.came(0), ALL);
    }

    private void knownByN() {
        e.by(TERMS, "KNOWN by n (all at first): the first n that aren't STRUCK by one of these");
        WeedStrand x = Due.strand(FORKER);
        e.is("known at first", x.count(13), 0);
        x.see(4, 8, true);
        x.see(4, 16, true);
        x.strike(0);
        x.strike(1);
        x.see(4, 24, true);
        e.is("known by all", x.count(13), 5);
        int[] due = {ALL, hours(0, 3), hours(0, 2), hours(0, 2), ALL, hours(0, 1)};
        for (int n = 5; n >= 0; n--) {
            x.known(n);
            e.is("known by " + n, x.count(13), n);
            e.is("came, known by " + n, x.came(0), due[n]);
        }
        x.known(3);
        x.see(4, 32, true);
        x.strike(1);
        e.is("later ones don't count", x.came(0), hours(0, 2));
        x.known(-1);
        e.is("all count", x.came(0), hours(0, 0));
    }

    private void strikesOfStrikes() {
        e.by(TERMS, "(a STRIKE may be STRUCK: then it doesn't count; asked from the last one on).");
        WeedStrand x = Due.strand(FORKER);
        x.see(4, 8, true);
        for (int i = 0; i < 23; i++) {
            e.is("strike(" + i + ")", x.strike(i), i + 1);
            e.is("came behind strike " + i, x.came(0), i % 2 == 0 ? ALL : hours(0, 3));
        }
        for (int n = 1; n <= 24; n++) {
            x.known(n);
            e.is("came, known by " + n, x.came(0), n % 2 == 0 ? ALL : hours(0, 3));
        }
        WeedStrand y = Due.strand(FORKER);
        y.see(4, 8, true);
        y.strike(0);
        y.strike(0);
        y.strike(1);
        e.is("the other strike counts", y.came(0), ALL);
        y.strike(2);
        e.is("neither counts", y.came(0), hours(0, 3));
        y.strike(3);
        e.is("the first counts again", y.came(0), ALL);
        y.known(5);
        e.is("known without the last", y.came(0), hours(0, 3));
    }

    private void cameHours() {
        e.by(TERMS, "CAME: HOURS 0 .. 23 (bits) at which a CROFT came, in place of its own,");
        for (int hour = 0; hour < 24; hour++) {
            WeedStrand x = Due.strand("stripe 999;croft a 1 0 99;rule saved;");
            x.see(hour + 1, 1, true);
            if (hour > 0) {
                x.see(hour, 1, false);
            }
            e.is("came at " + hour, x.came(0), 1 << hour);
        }
        WeedStrand y = Due.strand("stripe 999;croft a 1 0 30;rule saved;");
        y.see(31, 1, true);
        y.see(30, 1, false);
        e.is("its own hour 30 is none of these", y.came(0), 0);
        WeedStrand z = Due.strand(FORKER + "croft b 1 0 2;");
        z.see(4, 17, true);
        e.is("a in place of its own, b at its own", z.came(0), hours(0, 3));
        e.is("b in place of its own, a at its own", z.came(1), hours(0, 2));
    }

    private void cameByAll() {
        e.by(TERMS, "by which all KNOWN ones are so.");
        WeedStrand x = Due.strand(FORKER);
        e.is("by none", x.came(0), ALL);
        x.see(10, 40, true);
        e.is("by one", x.came(0), hours(0, 5));
        x.see(12, 64, false);
        e.is("by two", x.came(0), hours(5, 5));
        x.see(12, 64, false);
        e.is("the same once more", x.came(0), hours(5, 5));
        x.see(5, 1, true);
        e.is("they can't all be so", x.came(0), 0);
        x.strike(0);
        e.is("without the first", x.came(0), 0);
        x.strike(3);
        e.is("without the last", x.came(0), hours(5, 23));
    }

    private void see() {
        e.by("Promise 28", "SEEN (TONS 0 .. 9999): its number;");
        WeedStrand x = Due.strand(FORKER);
        e.is("least", x.see(1, 0, true), 0);
        e.is("most", x.see(99, 9999, false), 1);
        e.is("without a text", new WeedStrand().see(1, 0, true), 0);
        e.is("seen", x.count(12), 2);
        x.see(1, 9999, true);
        e.is("9999 at least", x.came(0), 0);
    }

    private void seeNone() {
        e.by("Promise 28", "NONE: no such ones, or there are 24.");
        WeedStrand x = Due.strand(FORKER);
        for (boolean atLeast : new boolean[] {true, false}) {
            e.is("hours 0", x.see(0, 1, atLeast), -1);
            e.is("hours 100", x.see(100, 1, atLeast), -1);
            e.is("hours -1", x.see(-1, 1, atLeast), -1);
            e.is("tons -1", x.see(1, -1, atLeast), -1);
            e.is("tons 10000", x.see(1, 10000, atLeast), -1);
            for (int far : Edges.FAR) {
                e.is("hours " + far, x.see(far, 1, atLeast), -1);
                e.is("tons " + far, x.see(1, far, atLeast), -1);
            }
        }
        e.is("none seen", x.count(12), 0);
        for (int i = 0; i < 24; i++) {
            e.is("see " + i, x.see(1, 0, true), i);
        }
        e.is("there are 24", x.see(1, 0, true), -1);
        x.known(3);
        e.is("there are 24, whatever is known", x.see(1, 0, true), -1);
        e.is("seen", x.count(12), 24);
    }

    private void strike() {
        e.by("Promise 29", "A STRIKE: its number;");
        WeedStrand x = Due.strand(FORKER);
        x.see(4, 8, true);
        e.is("strike(0)", x.strike(0), 1);
        e.is("of a strike", x.strike(1), 2);
        x.known(0);
        e.is("of one that isn't known", x.strike(2), 3);
        e.is("seen", x.count(12), 4);
        for (int i = 4; i < 24; i++) {
            e.is("strike " + i, x.strike(i - 1), i);
        }
    }

    private void strikeNone() {
        e.by("Promise 29", "NONE: no such one SEEN, or there are 24.");
        WeedStrand x = Due.strand(FORKER);
        e.is("none seen", x.strike(0), -1);
        x.see(1, 0, true);
        e.is("strike(1) of one", x.strike(1), -1);
        e.is("strike(-1)", x.strike(-1), -1);
        for (int far : Edges.FAR) {
            e.is("strike(" + far + ")", x.strike(far), -1);
        }
        e.is("one seen", x.count(12), 1);
        for (int i = 1; i < 24; i++) {
            x.see(1, 0, true);
        }
        e.is("there are 24", x.strike(0), -1);
        e.is("there are 24", x.strike(23), -1);
        e.is("seen", x.count(12), 24);
    }

    private void known() {
        e.by("Promise 30", "KNOWN by n from now on (-1: by all, also those to come): true;");
        WeedStrand x = Due.strand(FORKER);
        e.is("known(0)", x.known(0), true);
        x.see(4, 8, true);
        e.is("by none", x.came(0), ALL);
        e.is("known(1)", x.known(1), true);
        e.is("known(1), as it is", x.known(1), true);
        x.see(4, 16, true);
        e.is("those to come don't count", x.came(0), hours(0, 3));
        e.is("count", x.count(13), 1);
        e.is("known(-1)", x.known(-1), true);
        e.is("count", x.count(13), 2);
        x.see(4, 24, true);
        e.is("those to come count", x.came(0), hours(0, 1));
        e.is("count", x.count(13), 3);
        e.is("known(3)", x.known(3), true);
        x.see(4, 32, true);
        e.is("three alone", x.came(0), hours(0, 1));
        x.go(3);
        e.is("from now on", x.count(13), 3);
        for (int i = 4; i < 24; i++) {
            x.see(1, 0, true);
        }
        e.is("known(24)", x.known(24), true);
        e.is("by four", x.came(0), hours(0, 0));
        WeedStrand y = Due.strand(FORKER);
        y.see(4, 8, true);
        y.known(0);
        y.see(4, 16, false);
        y.strike(1);
        y.known(1);
        e.is("by the first of three", y.came(0), hours(0, 3));
        y.known(2);
        e.is("by two of three", y.came(0), hours(3, 3));
        y.known(-1);
        e.is("by all three", y.came(0), hours(0, 3));
    }

    private void knownFalse() {
        e.by("Promise 30", "false: no such n.");
        WeedStrand x = Due.strand(FORKER);
        e.is("known(1) of none", x.known(1), false);
        x.see(4, 8, true);
        x.see(4, 16, true);
        x.known(1);
        e.is("known(3) of two", x.known(3), false);
        e.is("known(-2)", x.known(-2), false);
        for (int far : Edges.FAR) {
            e.is("known(" + far + ")", x.known(far), false);
        }
        e.is("as it was", x.count(13), 1);
        e.is("as it was", x.came(0), hours(0, 3));
        for (int i = 2; i < 24; i++) {
            x.see(1, 0, true);
        }
        e.is("known(25)", x.known(25), false);
    }

    private void came() {
        e.by("Promise 31", "CAME (bits);");
        WeedStrand x = Due.strand(FORKER + "croft b 1 0 99;croft c 1 0 99;croft d 1 0 99;");
        x.see(24, 24 * 8, true);
        e.is("a: 21 hours of its own are too few", x.came(0), hours(0, 0));
        e.is("b with a", x.came(1), hours(0, 21));
        e.is("d with a", x.came(3), hours(0, 21));
        WeedStrand y = Due.strand(FORKER);
        e.is("all bits", y.came(0), 16777215);
        y.see(23, 1, false);
        e.is("the highest bit", y.came(0), 1 << 23);
    }

    private void cameNone() {
        e.by("Promise 31", "NONE: no such CROFT.");
        WeedStrand x = Due.strand(FORKER);
        e.is("croft -1", x.came(-1), -1);
        e.is("croft 1", x.came(1), -1);
        e.is("croft 4", x.came(4), -1);
        for (int far : Edges.FAR) {
            e.is("croft " + far, x.came(far), -1);
        }
        e.is("none told", new WeedStrand().came(0), -1);
    }
}
