/** Promises 6 to 14: what is told of stripes, crofts, fields, sources and laws now, and what is changed by call. */
final class EdgesOfState {
    private static final long ERROR = Long.MIN_VALUE;
    private static final String BEYOND = "IndexOutOfBoundsException";
    private static final String NO_SUCH = "NoSuchElementException";
    private static final String TEXT = "stripe 50;stripe 40;stripe 30;croft a 2 3 0;croft b 1 0 1;field b 20 4;field a 60 5;heap 6;";
    private static final WeedStrand NOTHING = new WeedStrand();

    private final Edges e;

    EdgesOfState(Edges edges) {
        e = edges;
    }

    void all() {
        stripe();
        noSuchStripe();
        noSuchWhatOfStripe();
        croft();
        noSuchCroft();
        field();
        noSuchField();
        source();
        noSuchSource();
        law();
        secondNumberOfLaw();
        noSuchLaw();
        act();
        noAct();
        rule();
        noRule();
        lot();
        noLot();
        lend();
        noLend();
    }

    private void stripe() {
        e.by("Promise 6", "Of a STRIPE now, what 0 how much LIES, 1 whose LOT (NONE).");
        WeedStrand x = Due.strand(TEXT + "tide 0;");
        e.lies("at first", x, 50, 40, 30);
        int[] lots = {0, 1, 0};
        for (int s = 0; s < 3; s++) {
            e.is("lot " + s, x.stripe(s, 1), lots[s]);
        }
        x.lot(2, 1);
        x.go(1);
        e.is("lot 2 by call", x.stripe(2, 1), 1);
        e.lies("behind an hour", x, 22, 20, 15);
        WeedStrand y = Due.strand("stripe 7;");
        e.is("lies", y.stripe(0, 0), 7);
        e.is("a lot without crofts", y.stripe(0, 1), -1);
        WeedStrand z = Due.strand("stripe 1;".repeat(7) + "stripe 2;croft a 1 1 1;croft b 1 1 1;croft c 1 1 1;");
        e.is("the eighth", z.stripe(7, 0), 2);
        e.is("whose", z.stripe(7, 1), 1);
    }

    private void noStripe(WeedStrand x, int stripe, int what, String want) {
        e.throwing("stripe(" + stripe + ", " + what + ") of " + x.count(0), () -> x.stripe(stripe, what), want);
    }

    private void noSuchStripe() {
        e.by("Promise 6", "IndexOutOfBoundsException: no such STRIPE.");
        WeedStrand x = Due.strand(TEXT);
        for (int what = -1; what <= 2; what++) {
            noStripe(x, -1, what, BEYOND);
            noStripe(x, 3, what, BEYOND);
            noStripe(x, 8, what, BEYOND);
            noStripe(NOTHING, 0, what, BEYOND);
            for (int far : Edges.FAR) {
                noStripe(x, far, what, BEYOND);
            }
        }
        noStripe(x, 2, 0, "");
        noStripe(x, 0, 1, "");
    }

    private void noSuchWhatOfStripe() {
        e.by("Promise 6", "NoSuchElementException: no such what.");
        WeedStrand x = Due.strand(TEXT);
        for (int s = 0; s < 3; s++) {
            noStripe(x, s, -1, NO_SUCH);
            noStripe(x, s, 2, NO_SUCH);
            for (int far : Edges.FAR) {
                noStripe(x, s, far, NO_SUCH);
            }
        }
    }

    private void croftIs(WeedStrand x, int croft, int... want) {
        for (int what = 0; what < want.length; what++) {
            e.is("croft(" + croft + ", " + what + ")", x.croft(croft, what), want[what]);
        }
    }

    private void croft() {
        e.by("Promise 7", "Of a CROFT now, what 0 CARTS, 1 HILL, 2 when it COMES, 3 its ACT, 4 GAIN, 5 what it FORKED, 6 what LIES on its LOTS.");
        WeedStrand x = Due.strand(TEXT);
        croftIs(x, 0, 2, 3, 0, 0, 0, 0, 80);
        croftIs(x, 1, 1, 0, 1, 0, 0, 0, 40);
        x.act(1, 2);
        x.lend(0, 1);
        x.lot(2, 1);
        x.go(2);
        // a carts 2 and 2 of stripe 0, b forks 8 of it
        croftIs(x, 0, 1, 3, 0, 0, 2 * 60 + 2 * 58, 0, 38);
        croftIs(x, 1, 2, 0, 1, 2, 0, 8, 70);
        WeedStrand y = Due.strand("croft a 1 1 1;croft b 1 1 1;croft c 1 1 1;croft d 5 9 99;");
        croftIs(y, 3, 5, 9, 99, 0, 0, 0, 0);
    }

    private void noSuchCroft() {
        e.by("Promise 7", "NONE: no such ones.");
        WeedStrand x = Due.strand(TEXT);
        for (int what = 0; what < 7; what++) {
            e.is("croft -1", x.croft(-1, what), -1);
            e.is("croft 2", x.croft(2, what), -1);
            e.is("croft 4", x.croft(4, what), -1);
            e.is("none told", NOTHING.croft(0, what), -1);
            for (int far : Edges.FAR) {
                e.is("croft " + far, x.croft(far, what), -1);
            }
        }
        e.is("what -1", x.croft(0, -1), -1);
        e.is("what 7", x.croft(1, 7), -1);
        for (int far : Edges.FAR) {
            e.is("what " + far, x.croft(0, far), -1);
        }
    }

    private void fieldIs(WeedStrand x, int field, int... want) {
        for (int what = 0; what < want.length; what++) {
            e.is("field(" + field + ", " + what + ")", x.field(field, what), want[what]);
        }
    }

    private void field() {
        e.by("Promise 8", "Of a FIELD now, what 0 the CROFT, 1 WANTS, 2 SORT, 3 what it GOT, 4 WORTH.");
        WeedStrand x = Due.strand(TEXT);
        fieldIs(x, 0, 1, 20, 4, 0, 20);
        fieldIs(x, 1, 0, 60, 5, 0, 60);
        x.go(2);
        fieldIs(x, 0, 1, 20, 4, 5, 15);
        fieldIs(x, 1, 0, 60, 5, 14, 46);
        WeedStrand y = Due.strand("croft a 1 1 1;" + "field a 1 1;".repeat(5) + "field a 99 9;law worth sort*10;");
        fieldIs(y, 5, 0, 99, 9, 0, 90);
    }

    private void noSuchField() {
        e.by("Promise 8", "NONE: no such ones.");
        WeedStrand x = Due.strand(TEXT);
        for (int what = 0; what < 5; what++) {
            e.is("field -1", x.field(-1, what), -1);
            e.is("field 2", x.field(2, what), -1);
            e.is("field 6", x.field(6, what), -1);
            e.is("none told", NOTHING.field(0, what), -1);
            for (int far : Edges.FAR) {
                e.is("field " + far, x.field(far, what), -1);
            }
        }
        e.is("what -1", x.field(0, -1), -1);
        e.is("what 5", x.field(1, 5), -1);
        for (int far : Edges.FAR) {
            e.is("what " + far, x.field(0, far), -1);
        }
    }

    private void source() {
        e.by("Promise 9", "SOURCE of a CROFT now to cart (what 0), to fork (1): the STRIPE; -3: the HEAP; -2: there is none;");
        WeedStrand x = Due.strand(TEXT);
        e.is("the first stripe", x.source(0, 0), 0);
        e.is("though it comes later", x.source(1, 1), 0);
        x.rule(2);
        e.is("the heap", x.source(1, 0), -3);
        e.is("not to fork", x.source(1, 1), 0);
        x.rule(1);
        e.is("of its own lots", x.source(1, 0), 1);
        x.lot(1, 0);
        e.is("without a lot the heap", x.source(1, 0), -3);
        e.is("without a lot none to fork", x.source(1, 1), -2);
        WeedStrand y = Due.strand("croft a 1 1 1;");
        e.is("none", y.source(0, 0), -2);
        e.is("none", y.source(0, 1), -2);
        WeedStrand z = Due.strand("stripe 1;".repeat(7) + "stripe 2;croft a 1 1 1;");
        e.is("the eighth", z.source(0, 0), 7);
    }

    private void noSuchSource() {
        e.by("Promise 9", "NONE: no such ones.");
        WeedStrand x = Due.strand(TEXT);
        for (int what = -1; what <= 2; what++) {
            e.is("croft -1", x.source(-1, what), -1);
            e.is("croft 2", x.source(2, what), -1);
            e.is("none told", NOTHING.source(0, what), -1);
            for (int far : Edges.FAR) {
                e.is("croft " + far, x.source(far, what), -1);
            }
        }
        e.is("what -1", x.source(0, -1), -1);
        e.is("what 2", x.source(0, 2), -1);
        for (int far : Edges.FAR) {
            e.is("what " + far, x.source(1, far), -1);
        }
        e.is("NONE ahead of -2", Due.strand("croft a 1 1 1;").source(0, 2), -1);
    }

    private static final String LAWS = TEXT
        + "law load lies*10+carts;law fork lies*20+carts;law ebb lies*30;law worth wants*40+carts;";

    private void law() {
        e.by("Promise 10", "A law's E (what 0 load, 1 fork of a CROFT at a STRIPE, or the HEAP for load (-3);");
        WeedStrand x = Due.strand(LAWS);
        int[] lies = {50, 40, 30};
        for (int s = 0; s < 3; s++) {
            e.is("load of a at " + s, x.law(0, 0, s), lies[s] * 10 + 2);
            e.is("load of b at " + s, x.law(0, 1, s), lies[s] * 10 + 1);
            e.is("fork of a at " + s, x.law(1, 0, s), lies[s] * 20 + 2);
            e.is("fork of b at " + s, x.law(1, 1, s), lies[s] * 20 + 1);
        }
        e.is("load of a at the heap", x.law(0, 0, -3), 62);
        e.is("load of b at the heap", x.law(0, 1, -3), 61);
        e.is("E isn't put to anything", x.law(1, 0, 0), 1002);
        e.is("below 0", Due.strand("stripe 1;croft a 1 1 1;law load 0-7;").law(0, 0, 0), -7);
        e.is("at an empty heap", Due.strand("croft a 1 1 1;law load lies-7;").law(0, 0, -3), -7);
        x.act(0, 2);
        x.go(1);
        // all 50 were forked
        e.is("load now", x.law(0, 0, 0), 2);
        e.is("load at the heap now", x.law(0, 0, -3), 562);
        e.is("fork now", x.law(1, 0, 0), 2);
        e.is("fork of another stripe now", x.law(1, 0, 1), 802);
        e.is("ebb now", x.law(2, 0, 0), 0);
    }

    private void secondNumberOfLaw() {
        e.by("Promise 10", "2 ebb of a STRIPE, 3 worth of a FIELD: the first number, the other one isn't looked at).");
        WeedStrand x = Due.strand(LAWS);
        int[] others = {-4, -3, -2, -1, 0, 1, 2, 3, 8, Integer.MIN_VALUE, Integer.MAX_VALUE};
        for (int other : others) {
            e.is("ebb of 0, " + other, x.law(2, 0, other), 1500);
            e.is("ebb of 2, " + other, x.law(2, 2, other), 900);
            e.is("worth of 0, " + other, x.law(3, 0, other), 801);
            e.is("worth of 1, " + other, x.law(3, 1, other), 2402);
        }
        WeedStrand y = Due.strand("stripe 9;law ebb lies;");
        e.is("ebb without crofts", y.law(2, 0, 0), 9);
        WeedStrand z = Due.strand("croft a 1 1 1;field a 3 0;law worth wants;");
        e.is("worth without stripes", z.law(3, 0, 0), 3);
        WeedStrand w = Due.strand("croft a 1 1 1;field a 3 0;field a 4 0;field a 5 0;law worth wants;");
        e.is("more fields than crofts", w.law(3, 2, 0), 5);
    }

    private void noSuchLaw() {
        e.by("Promise 10", "Long.MIN_VALUE: an ERROR, no such law, no such ones.");
        WeedStrand wrong = Due.strand(TEXT + "law load 1/0;law fork 1/0;law ebb 1/0;law worth 1/0;");
        WeedStrand untold = Due.strand(TEXT);
        for (int what = 0; what < 4; what++) {
            e.is("an error, what " + what, wrong.law(what, 0, 0), ERROR);
            e.is("not told, what " + what, untold.law(what, 0, 0), ERROR);
            e.is("of a new object, what " + what, NOTHING.law(what, 0, 0), ERROR);
        }
        e.is("an error at the heap", wrong.law(0, 0, -3), ERROR);
        e.is("not told at the heap", untold.law(0, 0, -3), ERROR);
        WeedStrand x = Due.strand(LAWS);
        int[] whats = {-1, 4, Integer.MIN_VALUE, Integer.MAX_VALUE};
        for (int what : whats) {
            e.is("what " + what, x.law(what, 0, 0), ERROR);
        }
        int[] wheres = {-4, -2, -1, 3, 8, Integer.MIN_VALUE, Integer.MAX_VALUE};
        for (int where : wheres) {
            e.is("load at " + where, x.law(0, 0, where), ERROR);
            e.is("fork at " + where, x.law(1, 0, where), ERROR);
        }
        e.is("no fork at the heap", x.law(1, 0, -3), ERROR);
        int[] crofts = {-3, -1, 2, 4, Integer.MIN_VALUE, Integer.MAX_VALUE};
        for (int which : crofts) {
            e.is("load of croft " + which, x.law(0, which, 0), ERROR);
            e.is("load of croft " + which + " at the heap", x.law(0, which, -3), ERROR);
            e.is("fork of croft " + which, x.law(1, which, 0), ERROR);
            e.is("worth of field " + which, x.law(3, which, 0), ERROR);
        }
        int[] stripes = {-3, -1, 3, 8, Integer.MIN_VALUE, Integer.MAX_VALUE};
        for (int which : stripes) {
            e.is("ebb of stripe " + which, x.law(2, which, 0), ERROR);
        }
        e.is("fields aren't counted as stripes", x.law(3, 2, 0), ERROR);
        WeedStrand y = Due.strand("croft a 1 1 1;croft b 1 1 1;field a 3 0;law worth wants;");
        e.is("fewer fields than crofts", y.law(3, 1, 0), ERROR);
    }

    // ---- changes

    private void act() {
        e.by("Promise 11", "A CROFT's ACT (0 .. 3) from now on: true;");
        WeedStrand x = Due.strand(TEXT);
        for (int act : new int[] {3, 2, 1, 0}) {
            e.is("act(1, " + act + ")", x.act(1, act), true);
            e.is("its act", x.croft(1, 3), act);
            e.is("the other's act", x.croft(0, 3), 0);
        }
        WeedStrand y = Due.strand(TEXT);
        e.is("act(0, 3)", y.act(0, 3), true);
        y.go(5);
        e.is("from now on", y.croft(0, 4), 0);
        e.is("its act", y.croft(0, 3), 3);
    }

    private void noAct() {
        e.by("Promise 11", "false: no such ones, it is so.");
        WeedStrand x = Due.strand(TEXT);
        e.is("it is so", x.act(0, 0), false);
        x.act(0, 2);
        e.is("it is so", x.act(0, 2), false);
        e.is("act -1", x.act(0, -1), false);
        e.is("act 4", x.act(0, 4), false);
        e.is("croft -1", x.act(-1, 1), false);
        e.is("croft 2", x.act(2, 1), false);
        for (int far : Edges.FAR) {
            e.is("act " + far, x.act(0, far), false);
            e.is("croft " + far, x.act(far, 1), false);
        }
        e.is("none told", NOTHING.act(0, 1), false);
        e.is("the act stays", x.croft(0, 3), 2);
        e.is("one can be undone", x.count(14), 1);
    }

    private void rule() {
        e.by("Promise 12", "The rule 0, 1, 2 from now on: true;");
        WeedStrand x = Due.strand(TEXT);
        for (int rule : new int[] {2, 1, 0}) {
            e.is("rule(" + rule + ")", x.rule(rule), true);
            e.is("the rule", x.count(11), rule);
        }
        x.rule(2);
        x.go(3);
        e.is("from now on", x.count(11), 2);
        e.is("by it", x.count(9), 0);
    }

    private void noRule() {
        e.by("Promise 12", "false: no such one, it is so.");
        String[] rules = {"free", "lots", "saved"};
        for (int rule = 0; rule < 3; rule++) {
            WeedStrand x = Due.strand(TEXT + "rule " + rules[rule] + ";");
            e.is("it is so", x.rule(rule), false);
            e.is("rule(-1)", x.rule(-1), false);
            e.is("rule(3)", x.rule(3), false);
            for (int far : Edges.FAR) {
                e.is("rule(" + far + ")", x.rule(far), false);
            }
            e.is("the rule stays", x.count(11), rule);
            e.is("none can be undone", x.count(14), 0);
        }
        e.is("of a new object", NOTHING.rule(0), false);
    }

    private void lot() {
        e.by("Promise 13", "A STRIPE is of the LOTS of a CROFT from now on: true;");
        WeedStrand x = Due.strand(TEXT);
        e.is("lot(2, 1)", x.lot(2, 1), true);
        e.is("whose", x.stripe(2, 1), 1);
        e.is("lies on lots of a", x.croft(0, 6), 50);
        e.is("lies on lots of b", x.croft(1, 6), 70);
        e.is("lot(0, 1)", x.lot(0, 1), true);
        e.is("lies on lots of a", x.croft(0, 6), 0);
        x.rule(1);
        x.go(3);
        e.is("from now on", x.stripe(2, 1), 1);
        e.is("a carts of the heap alone", x.count(7), 0);
        e.is("lot(0, 0)", x.lot(0, 0), true);
        WeedStrand y = Due.strand("stripe 1;".repeat(8) + "croft a 1 1 1;croft b 1 1 1;croft c 1 1 1;croft d 1 1 1;");
        e.is("the last of both", y.lot(7, 0), true);
        e.is("whose", y.stripe(7, 1), 0);
        e.is("the last of both", y.lot(7, 3), true);
    }

    private void noLot() {
        e.by("Promise 13", "false: no such ones, it is so.");
        WeedStrand x = Due.strand(TEXT);
        e.is("it is so", x.lot(0, 0), false);
        e.is("it is so", x.lot(1, 1), false);
        e.is("stripe -1", x.lot(-1, 0), false);
        e.is("stripe 3", x.lot(3, 0), false);
        e.is("stripe 8", x.lot(8, 0), false);
        e.is("croft -1", x.lot(0, -1), false);
        e.is("croft 2", x.lot(0, 2), false);
        e.is("croft 4", x.lot(0, 4), false);
        for (int far : Edges.FAR) {
            e.is("stripe " + far, x.lot(far, 0), false);
            e.is("croft " + far, x.lot(0, far), false);
        }
        e.is("of none", Due.strand("stripe 1;").lot(0, -1), false);
        e.is("of none", Due.strand("stripe 1;").lot(0, 0), false);
        e.is("none told", NOTHING.lot(0, 0), false);
        e.is("the lots stay", x.croft(0, 6), 80);
        e.is("none can be undone", x.count(14), 0);
    }

    private void carts(String when, WeedStrand x, int... want) {
        for (int c = 0; c < want.length; c++) {
            e.is("carts of " + c + " " + when, x.croft(c, 0), want[c]);
        }
    }

    private void lend() {
        e.by("Promise 14", "A cart goes from a CROFT to another one for good: true;");
        WeedStrand x = Due.strand("croft a 1 0 0;croft b 4 0 0;croft c 5 0 0;croft d 0 0 0;");
        e.is("its last one, to a fifth", x.lend(0, 1), true);
        carts("then", x, 0, 5, 5, 0);
        e.is("to its first", x.lend(2, 3), true);
        carts("then", x, 0, 5, 4, 1);
        e.is("on to another", x.lend(3, 0), true);
        e.is("none to one that has 5 by that", x.lend(2, 1), false);
        carts("then", x, 1, 5, 4, 0);
        x.go(99);
        carts("for good", x, 1, 5, 4, 0);
        e.is("to one that had 5", x.lend(0, 2), true);
        carts("then", x, 0, 5, 5, 0);
        e.is("from one that had 1", x.lend(0, 3), false);
    }

    private void noLend() {
        e.by("Promise 14", "false: no such ones, alike, it has none, that one has 5.");
        WeedStrand x = Due.strand("croft a 0 0 0;croft b 5 0 0;croft c 2 0 0;");
        e.is("alike", x.lend(2, 2), false);
        e.is("alike with none", x.lend(0, 0), false);
        e.is("it has none", x.lend(0, 2), false);
        e.is("that one has 5", x.lend(2, 1), false);
        e.is("from -1", x.lend(-1, 2), false);
        e.is("from 3", x.lend(3, 2), false);
        e.is("to -1", x.lend(2, -1), false);
        e.is("to 3", x.lend(2, 3), false);
        for (int far : Edges.FAR) {
            e.is("from " + far, x.lend(far, 2), false);
            e.is("to " + far, x.lend(2, far), false);
            e.is("alike " + far, x.lend(far, far), false);
        }
        e.is("none told", NOTHING.lend(0, 1), false);
        carts("stay", x, 0, 5, 2);
        e.is("none can be undone", x.count(14), 0);
    }
}
