/** Promises 34 to 37: what is undone, images, counts. */
final class UndoTest {
    private static final Due DUE = new Due("UndoTest");
    private static final String TEXT = "stripe 50;stripe 40;croft a 2 0 0;croft b 1 0 0;field a 9 0;field b 9 0;heap 3;"
        + "gale 50 7;seed 9;tide 3;law load 4+1;";

    public static void main(String[] args) {
        each();
        latestFirst();
        twentyAtMost();
        hoursClear();
        falseIsNothing();
        images();
        imageKeepsNumbers();
        imageLeavesSeen();
        counts();
        DUE.end();
    }

    private static void each() {
        WeedStrand x = Due.strand(TEXT);
        x.act(1, 2);
        DUE.is("undo an act", x.undo(), 0);
        DUE.is("its act", x.croft(1, 3), 0);
        x.rule(2);
        DUE.is("undo a rule", x.undo(), 0);
        DUE.is("the rule", x.count(11), 0);
        x.lot(1, 0);
        DUE.is("undo a lot", x.undo(), 0);
        DUE.is("the lot", x.stripe(1, 1), 1);
        x.lend(0, 1);
        DUE.is("undo a cart", x.undo(), 0);
        DUE.is("carts", x.croft(0, 0), 2);
        DUE.is("carts", x.croft(1, 0), 1);
        DUE.is("nothing left", x.undo(), -1);
    }

    private static void latestFirst() {
        WeedStrand x = Due.strand(TEXT);
        x.act(0, 1);
        x.act(0, 2);
        x.lend(0, 1);
        x.lend(0, 1);
        x.rule(1);
        DUE.is("five", x.count(14), 5);
        DUE.is("undo", x.undo(), 4);
        DUE.is("rule", x.count(11), 0);
        DUE.is("undo", x.undo(), 3);
        DUE.is("carts", x.croft(0, 0), 1);
        DUE.is("undo", x.undo(), 2);
        DUE.is("undo", x.undo(), 1);
        DUE.is("act", x.croft(0, 3), 1);
        DUE.is("undo", x.undo(), 0);
        DUE.is("act", x.croft(0, 3), 0);
    }

    private static void twentyAtMost() {
        WeedStrand x = Due.strand(TEXT);
        x.rule(1);
        x.lot(0, 1);
        x.lend(0, 1);
        for (int i = 0; i < 20; i++) {
            DUE.is("act " + i, x.act(0, 1 + i % 3), true);
            DUE.is("can be undone", x.count(14), Math.min(20, i + 4));
        }
        for (int i = 19; i > 0; i--) {
            DUE.is("undo", x.undo(), i);
            DUE.is("act " + i, x.croft(0, 3), 1 + (i - 1) % 3);
        }
        DUE.is("the twentieth", x.undo(), 0);
        DUE.is("act", x.croft(0, 3), 0);
        DUE.is("no more", x.undo(), -1);
        DUE.is("the rule stays", x.count(11), 1);
        DUE.is("the lot stays", x.stripe(0, 1), 1);
        DUE.is("the cart stays", x.croft(0, 0), 1);
    }

    private static void hoursClear() {
        WeedStrand x = Due.strand(TEXT);
        x.act(0, 1);
        x.go(0);
        x.go(100);
        DUE.is("no hour went by", x.count(14), 1);
        x.table(0, 5, 0);
        x.keep();
        DUE.is("as it goes is no hour", x.count(14), 1);
        x.go(1);
        DUE.is("an hour went by", x.count(14), 0);
        DUE.is("nothing to undo", x.undo(), -1);
        DUE.is("the act stays", x.croft(0, 3), 1);
    }

    private static void falseIsNothing() {
        WeedStrand x = Due.strand(TEXT);
        x.act(0, 0);
        x.act(9, 1);
        x.rule(0);
        x.lot(0, 0);
        x.lend(0, 0);
        DUE.is("nothing to undo", x.undo(), -1);
    }

    private static void images() {
        WeedStrand x = Due.strand(TEXT);
        DUE.is("no image", x.back(), -1);
        x.go(2);
        x.act(0, 3);
        x.rule(2);
        x.lot(0, 1);
        x.lend(0, 1);
        long before = look(x);
        DUE.is("keep", x.keep(), 2);
        DUE.is("still to undo", x.count(14), 4);
        x.undo();
        x.act(1, 2);
        x.rule(1);
        x.lot(1, 0);
        x.go(5);
        DUE.is("otherwise then", look(x) == before, false);
        x.act(0, 1);
        DUE.is("back", x.back(), 2);
        DUE.is("all as it was", look(x), before);
        DUE.is("nothing to undo", x.undo(), -1);
        x.go(9);
        DUE.is("back once more", x.back(), 2);
        DUE.is("all as it was", look(x), before);
        x.go(1);
        DUE.is("keep in its place", x.keep(), 3);
        x.go(4);
        DUE.is("back to that", x.back(), 3);
        Due.tell(x, "heap 1");
        DUE.is("a fault leaves the image", x.back(), 3);
        Due.tell(x, "heap 1;");
        DUE.is("a text doesn't", x.back(), -1);
        WeedStrand y = new WeedStrand();
        DUE.is("keep of a new one", y.keep(), 0);
        DUE.is("back of a new one", y.back(), 0);
    }

    /** All that is told of a strand now, in one number. */
    private static long look(WeedStrand x) {
        long sum = 0;
        for (int what = 5; what <= 11; what++) {
            sum = sum * 31 + x.count(what);
        }
        for (int s = 0; s < x.count(0); s++) {
            sum = (sum * 31 + x.stripe(s, 0)) * 31 + x.stripe(s, 1);
        }
        for (int c = 0; c < x.count(1); c++) {
            for (int what = 0; what < 7; what++) {
                sum = sum * 31 + x.croft(c, what);
            }
        }
        for (int f = 0; f < x.count(2); f++) {
            sum = (sum * 31 + x.field(f, 3)) * 31 + x.field(f, 4);
        }
        return sum;
    }

    private static void imageKeepsNumbers() {
        WeedStrand x = Due.strand(TEXT);
        x.go(3);
        x.keep();
        x.go(20);
        long then = look(x);
        x.back();
        x.go(20);
        DUE.is("the same gales once more", look(x), then);
    }

    private static void imageLeavesSeen() {
        WeedStrand x = Due.strand(TEXT);
        x.see(1, 1, true);
        x.keep();
        x.see(2, 2, true);
        x.known(1);
        x.feed(0x20202020, 0x20202020, 0x20202020, 0x20202020, 0x20202020);
        x.text(-1);
        x.back();
        DUE.is("seen stays", x.count(12), 2);
        DUE.is("known stays", x.count(13), 1);
        DUE.is("the tape stays", x.feed(0, 0, 0, 0, 0), 40);
        x.text(40);
        x.back();
        DUE.is("the fault stays", x.fault(1), 20);
    }

    private static void counts() {
        WeedStrand x = Due.strand(TEXT);
        int[] due = {2, 2, 2, 1, 3, 0, 90, 3, 0, 0, 0, 0, 0, 0, 0};
        for (int what = 0; what < due.length; what++) {
            DUE.is("count(" + what + ")", x.count(what), due[what]);
        }
        DUE.is("count(15)", x.count(15), -1);
        DUE.is("count(-1)", x.count(-1), -1);
        DUE.is("knots", Due.strand("law load ((1+lies)*2<3 and not 4 or 5);law ebb 0;").count(4), 12 + 1);
        WeedStrand y = Due.strand("stripe 50;croft a 1 0 0;croft b 0 0 0;field a 9 0;tide 1;rule lots;");
        y.act(1, 2);
        y.go(2);
        y.rule(2);
        int[] then = {1, 2, 1, 1, 0, 2, 20, 0, 20, 10, 65, 2, 0, 0, 1};
        for (int what = 0; what < then.length; what++) {
            DUE.is("count(" + what + ") then", y.count(what), then[what]);
        }
    }
}
