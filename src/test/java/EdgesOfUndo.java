/** Terms 4 and promises 34 to 37: what can be undone, the image, which answer goes first, counts. */
final class EdgesOfUndo {
    private static final String TERMS = "Terms 4";
    private static final String TEXT = "stripe 50;stripe 40;croft a 2 0 0;croft b 1 0 0;field a 9 0;field b 9 0;heap 3;"
        + "gale 50 7;seed 9;tide 3;law load 4+1;";

    private final Edges e;

    EdgesOfUndo(Edges edges) {
        e = edges;
    }

    void all() {
        whatCanBeUndone();
        latestFirst();
        twentyAtMost();
        noHourSince();
        imageKeepsAll();
        imageLeavesSome();
        noneFirst();
        whichExceptionFirst();
        undo();
        undoNone();
        keep();
        back();
        backNone();
        counts();
        countNone();
    }

    /** All that is told of a strand now, as one text. */
    private static String look(WeedStrand x) {
        StringBuilder all = new StringBuilder();
        for (int what = 5; what <= 11; what++) {
            all.append(x.count(what)).append(' ');
        }
        for (int s = 0; s < x.count(0); s++) {
            all.append(x.stripe(s, 0)).append(' ').append(x.stripe(s, 1)).append(' ');
        }
        for (int c = 0; c < x.count(1); c++) {
            for (int what = 0; what < 7; what++) {
                all.append(x.croft(c, what)).append(' ');
            }
        }
        for (int f = 0; f < x.count(2); f++) {
            all.append(x.field(f, 3)).append(' ');
        }
        return all.toString();
    }

    private void same(String call, String got, String want) {
        e.is(call + ": " + got + " as " + want, got.equals(want), true);
    }

    private void whatCanBeUndone() {
        e.by(TERMS, "ACTS, the rule, LOTS, carts lent by call can be undone,");
        WeedStrand x = Due.strand(TEXT);
        String first = look(x);
        e.is("act", x.act(1, 2), true);
        e.is("one", x.count(14), 1);
        e.is("undo", x.undo(), 0);
        same("act undone", look(x), first);
        e.is("rule", x.rule(2), true);
        e.is("undo", x.undo(), 0);
        same("rule undone", look(x), first);
        e.is("lot", x.lot(1, 0), true);
        e.is("undo", x.undo(), 0);
        same("lot undone", look(x), first);
        e.is("lend", x.lend(0, 1), true);
        e.is("undo", x.undo(), 0);
        same("lend undone", look(x), first);
        x.act(0, 0);
        x.act(0, 4);
        x.rule(0);
        x.rule(3);
        x.lot(0, 0);
        x.lot(0, 2);
        x.lend(0, 0);
        x.lend(0, 2);
        e.is("what answers false changes nothing", x.count(14), 0);
        x.see(1, 1, true);
        x.known(1);
        x.keep();
        x.feed(0, 0, 0, 0, 0);
        e.is("nothing else can be undone", x.undo(), -1);
    }

    private void latestFirst() {
        e.by(TERMS, "the latest first");
        WeedStrand x = Due.strand(TEXT);
        String[] looks = new String[6];
        for (int i = 0; i < 6; i++) {
            looks[i] = look(x);
            boolean done = switch (i) {
                case 0 -> x.act(0, 1);
                case 1, 4 -> x.lend(0, 1);
                case 2 -> x.rule(1);
                case 3 -> x.lot(0, 1);
                default -> x.rule(2);
            };
            e.is("change " + i, done, true);
        }
        for (int i = 5; i >= 0; i--) {
            e.is("undo " + i, x.undo(), i);
            same("as ahead of change " + i, look(x), looks[i]);
        }
        WeedStrand y = Due.strand(TEXT);
        y.act(0, 1);
        y.act(0, 2);
        y.act(0, 0);
        y.undo();
        e.is("the act ahead of the last", y.croft(0, 3), 2);
        y.undo();
        e.is("the act ahead of that", y.croft(0, 3), 1);
        y.act(0, 3);
        e.is("two again", y.count(14), 2);
        y.undo();
        e.is("the act ahead of it", y.croft(0, 3), 1);
    }

    /** What can be changed by call of two stripes and two crofts, as one number. */
    private static int choices(WeedStrand x) {
        int all = x.count(11);
        for (int i = 0; i < 2; i++) {
            all = ((all * 10 + x.stripe(i, 1)) * 10 + x.croft(i, 3)) * 10 + x.croft(i, 0);
        }
        return all;
    }

    private void twentyAtMost() {
        e.by(TERMS, "(20 at most),");
        WeedStrand x = Due.strand(TEXT);
        int[] looks = new int[25];
        for (int i = 0; i < 25; i++) {
            looks[i] = choices(x);
            switch (i % 4) {
                case 0 -> e.is("change " + i, x.act(i / 4 % 2, 1 + i / 8 % 3), true);
                case 1 -> e.is("change " + i, x.rule((x.count(11) + 1) % 3), true);
                case 2 -> e.is("change " + i, x.lot(i / 4 % 2, 1 - x.stripe(i / 4 % 2, 1)), true);
                default -> e.is("change " + i, i % 8 == 3 ? x.lend(0, 1) : x.lend(1, 0), true);
            }
            e.is("can be undone behind change " + i, x.count(14), Math.min(20, i + 1));
        }
        for (int i = 24; i >= 5; i--) {
            e.is("undo " + i, x.undo(), i - 5);
            e.is("as ahead of change " + i, choices(x), looks[i]);
        }
        e.is("no more", x.undo(), -1);
        e.is("the first five stay", choices(x), looks[5]);
    }

    private void noHourSince() {
        e.by(TERMS, "if no HOUR went by since.");
        WeedStrand x = Due.strand(TEXT);
        x.act(0, 1);
        x.rule(1);
        x.go(0);
        e.is("go(0) is no hour", x.count(14), 2);
        x.go(-1);
        x.go(100);
        e.is("no such hours", x.count(14), 2);
        x.table(0, 9, 0);
        x.plan(0, 3);
        x.tried(0, 0, 9);
        x.chance(1, 9, 0, 0);
        x.came(0);
        e.is("hours to come", x.count(14), 2);
        e.is("undo", x.undo(), 1);
        x.go(1);
        e.is("an hour", x.count(14), 0);
        e.is("undo", x.undo(), -1);
        e.is("the act stays", x.croft(0, 3), 1);
        e.is("since", x.act(0, 2), true);
        e.is("undo of what came since", x.undo(), 0);
        e.is("the act", x.croft(0, 3), 1);
    }

    private void imageKeepsAll() {
        e.by(TERMS, "An IMAGE keeps all");
        WeedStrand x = Due.strand(TEXT);
        x.act(1, 2);
        x.go(5);
        x.act(0, 3);
        x.rule(2);
        x.lot(0, 1);
        x.lend(0, 1);
        String kept = look(x);
        x.keep();
        WeedStrand y = Due.strand(TEXT);
        y.act(1, 2);
        y.go(5);
        y.act(0, 3);
        y.rule(2);
        y.lot(0, 1);
        y.lend(0, 1);
        x.act(0, 1);
        x.act(1, 0);
        x.rule(0);
        x.lot(0, 0);
        x.lend(1, 0);
        x.go(40);
        e.is("otherwise then", look(x).equals(kept), false);
        e.is("back", x.back(), 5);
        same("as it was", look(x), kept);
        x.go(40);
        y.go(40);
        same("by the same numbers", look(x), look(y));
    }

    private void imageLeavesSome() {
        e.by(TERMS, "but what was SEEN, by how many it is KNOWN, the TAPE and the FAULT.");
        WeedStrand x = Due.strand(TEXT);
        x.see(1, 1, true);
        x.keep();
        x.see(2, 999, true);
        x.known(1);
        x.feed(0x20202020, 0x20202020, 0x20202020, 0x20202020, 0x20202020);
        x.back();
        e.is("seen", x.count(12), 2);
        e.is("known", x.count(13), 1);
        e.is("the tape", x.feed(0x24202020, 0, 0, 0, 0), 40);
        x.known(-1);
        x.back();
        e.is("known by all", x.count(13), 2);
        e.is("what was seen counts", x.came(0), 0);
        x.text(40);
        x.back();
        e.is("the fault", x.fault(0), 1);
        e.is("its place", x.fault(1), 20);
        e.is("the tape", x.text(1), -2);
    }

    private void noneFirst() {
        e.by(TERMS, "Of several answers that hold NONE goes first.");
        WeedStrand x = Due.strand("stripe 9;croft a 1 0 5;croft b 1 0 6;");
        WeedStrand y = Due.strand("stripe 9;");
        e.is("planned", x.planned(2, 3, 9), -1);
        e.is("planned", x.planned(0, 7, 9), -1);
        e.is("rest", x.rest(0, 0, 1, 99), -1);
        e.is("rest", x.rest(0, 1, 0, 99), -1);
        e.is("turn", x.turn(5, 9), -1);
        e.is("turn", y.turn(1, 9), -1);
        e.is("swap", x.swap(3), -1);
        e.is("lending", x.lending(0, 2, 1, 2), -1);
        e.is("lending", x.lending(0, 1, 0, 2), -1);
        e.is("source", y.source(0, 0), -1);
        e.is("source", Due.strand("croft a 1 0 0;").source(0, 2), -1);
    }

    private void whichExceptionFirst() {
        e.by(TERMS, "IndexOutOfBoundsException goes ahead of NoSuchElementException.");
        WeedStrand x = Due.strand("stripe 9;");
        for (int what : new int[] {-1, 2, Integer.MIN_VALUE, Integer.MAX_VALUE}) {
            for (int stripe : new int[] {-1, 1, Integer.MIN_VALUE, Integer.MAX_VALUE}) {
                e.throwing("stripe(" + stripe + ", " + what + ")", () -> x.stripe(stripe, what), "IndexOutOfBoundsException");
            }
            e.throwing("stripe(0, " + what + ")", () -> x.stripe(0, what), "NoSuchElementException");
        }
    }

    private void undo() {
        e.by("Promise 34", "The latest is undone: how many are left;");
        WeedStrand x = Due.strand(TEXT);
        x.act(0, 1);
        x.rule(1);
        x.lot(0, 1);
        x.lend(0, 1);
        e.is("undo", x.undo(), 3);
        e.is("carts of a", x.croft(0, 0), 2);
        e.is("carts of b", x.croft(1, 0), 1);
        e.is("left", x.count(14), 3);
        e.is("undo", x.undo(), 2);
        e.is("lot", x.stripe(0, 1), 0);
        e.is("undo", x.undo(), 1);
        e.is("rule", x.count(11), 0);
        e.is("undo", x.undo(), 0);
        e.is("act", x.croft(0, 3), 0);
    }

    private void undoNone() {
        e.by("Promise 34", "NONE: none.");
        e.is("a new object", new WeedStrand().undo(), -1);
        WeedStrand x = Due.strand(TEXT);
        e.is("none yet", x.undo(), -1);
        x.act(0, 1);
        x.undo();
        e.is("none left", x.undo(), -1);
        e.is("none left", x.undo(), -1);
        e.is("what was undone can be done", x.act(0, 1), true);
        e.is("and undone", x.undo(), 0);
    }

    private void keep() {
        e.by("Promise 35", "An IMAGE is kept (in place of one ahead): which HOUR it is.");
        WeedStrand x = Due.strand(TEXT);
        e.is("keep", x.keep(), 0);
        x.go(7);
        e.is("keep in its place", x.keep(), 7);
        x.go(7);
        e.is("back", x.back(), 7);
        e.is("not to the one ahead", x.back(), 7);
        x.act(0, 1);
        e.is("keep", x.keep(), 7);
        e.is("still to undo", x.count(14), 1);
        e.is("a new object", new WeedStrand().keep(), 0);
        WeedStrand y = new WeedStrand();
        for (int i = 0; i < 101; i++) {
            y.go(99);
        }
        e.is("the last hour", y.keep(), 9999);
    }

    private void back() {
        e.by("Promise 36", "All that it keeps is as in the IMAGE (nothing to undo then): which HOUR it is;");
        WeedStrand x = Due.strand(TEXT);
        x.go(2);
        x.act(0, 3);
        String kept = look(x);
        x.keep();
        for (int i = 1; i <= 3; i++) {
            x.rule(i % 2 + 1);
            x.go(i);
            x.act(1, 3);
            e.is("back", x.back(), 2);
            same("as in the image", look(x), kept);
            e.is("nothing to undo", x.count(14), 0);
            e.is("nothing to undo", x.undo(), -1);
        }
        x.rule(2);
        e.is("back ahead of any hour", x.back(), 2);
        e.is("nothing to undo", x.undo(), -1);
        WeedStrand y = new WeedStrand();
        y.keep();
        y.go(9);
        e.is("back of a new object", y.back(), 0);
    }

    private void backNone() {
        e.by("Promise 36", "NONE: there is none.");
        e.is("a new object", new WeedStrand().back(), -1);
        WeedStrand x = Due.strand(TEXT);
        x.go(3);
        x.act(0, 1);
        e.is("none kept", x.back(), -1);
        e.is("nothing is changed", x.count(5), 3);
        e.is("one to undo", x.count(14), 1);
        x.keep();
        Due.tell(x, "heap 1");
        e.is("a text with a fault leaves it", x.back(), 3);
        x.text(1);
        e.is("so does a text of too many", x.back(), 3);
        Due.tell(x, "heap 1;");
        e.is("a text doesn't", x.back(), -1);
    }

    private void counts() {
        e.by("Promise 37", "0 STRIPES, 1 CROFTS, 2 FIELDS, 3 TIDES, 4 KNOTS, 5 the HOUR, 6 all that LIES, 7 the HEAP, 8 what went to the SEA, 9 what FIELDS GOT, 10 all GAINS, 11 the rule, 12 SEEN, 13 by how many it is KNOWN (by all: how many there are), 14 what can be undone.");
        WeedStrand x = Due.strand("stripe 50;stripe 3;croft a 1 0 0;croft b 0 0 0;croft c 2 0 0;field a 9 0;field c 8 0;tide 1;heap 2;rule lots;"
            + "law worth wants+(1-1)*0;");
        int[] first = {2, 3, 2, 1, 7, 0, 53, 2, 0, 0, 0, 1, 0, 0, 0};
        for (int what = 0; what < 15; what++) {
            e.is("count(" + what + ")", x.count(what), first[what]);
        }
        x.act(1, 2);
        x.go(2);
        x.rule(2);
        x.act(1, 1);
        x.see(1, 1, true);
        x.see(2, 2, true);
        x.strike(0);
        x.known(2);
        // a carts 5 and 5 of stripe 0, b forks 3 of stripe 1, c carts 5 and nothing of the heap
        int[] then = {2, 3, 2, 1, 7, 2, 20, 0, 20, 15, 130, 2, 3, 2, 2};
        for (int what = 0; what < 15; what++) {
            e.is("count(" + what + ") then", x.count(what), then[what]);
        }
        x.known(-1);
        e.is("by all", x.count(13), 3);
        x.known(0);
        e.is("by none", x.count(13), 0);
        String full = "stripe 999;".repeat(8) + "croft a 1 1 1;croft b 1 1 1;croft c 1 1 1;croft d 1 1 1;" + "field a 1 1;".repeat(6)
            + "tide 0;tide 1;tide 2;tide 23;heap 999;";
        WeedStrand z = Due.strand("stripe 99;croft a 1 0 0;" + "field a 9 0;".repeat(6) + "law worth 10-got;");
        z.go(6);
        e.is("all of six fields", z.count(9), 30);
        e.is("all lies", z.count(6), 69);
        int[] most = {8, 4, 6, 4, 0, 0, 7992, 999};
        WeedStrand y = Due.strand(full);
        for (int what = 0; what < most.length; what++) {
            e.is("count(" + what + ") of a full text", y.count(what), most[what]);
        }
    }

    private void countNone() {
        e.by("Promise 37", "NONE for another what.");
        WeedStrand x = Due.strand(TEXT);
        e.is("count(-1)", x.count(-1), -1);
        e.is("count(15)", x.count(15), -1);
        for (int far : Edges.FAR) {
            e.is("count(" + far + ")", x.count(far), -1);
        }
        e.is("a new object", new WeedStrand().count(15), -1);
    }
}
