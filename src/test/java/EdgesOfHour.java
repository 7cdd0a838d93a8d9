/** Terms 2 and promise 15: what an hour does, sources, worth, names, values, numbers and gales. */
final class EdgesOfHour {
    private static final String TERMS = "Terms 2";
    private static final long ERROR = Long.MIN_VALUE;
    private static final int TO_CART = 0;
    private static final int TO_FORK = 1;
    private static final int HEAP = -3;
    private static final int NOWHERE = -2;
    // the value of each name at a place of its own, so that none can stand for another
    private static final String ALL_NAMES = "lies+100*(carts+10*(hill+10*(hour+100*(got+100*(wants+100*sort)))))";

    private final Edges e;

    EdgesOfHour(Edges edges) {
        e = edges;
    }

    void all() {
        comes();
        byNumbers();
        ruledActs();
        savedActs();
        actsTold();
        ebbs();
        ebbLaws();
        daysOfTides();
        hoursOfTheDay();
        sourceFree();
        sourceByLots();
        sourceSaved();
        sourceOfNoStripe();
        greatestWorth();
        noFieldNoSource();
        loadLaws();
        loadWithoutLaw();
        loadOfWhatThereIs();
        gainByWorthAhead();
        forks();
        forkLaws();
        worth();
        worthLaws();
        namedLies();
        namedCarts();
        namedHour();
        namedField();
        allNames();
        valuesAreLongs();
        truth();
        bothSides();
        divisions();
        errors();
        numbers();
        numbersTold();
        galesByNumbers();
        galesOnStripes();
        goes();
        goesNone();
    }

    private static WeedStrand behind(int hours, String text) {
        WeedStrand x = Due.strand(text);
        x.go(hours);
        return x;
    }

    // ---- who acts

    private void comes() {
        e.by(TERMS, "An HOUR: (1) by numbers each CROFT that COMES at this HOUR or came ahead ACTS:");
        int[] hours = {0, 1, 23, 24, 30, 99};
        for (int hour : hours) {
            WeedStrand x = behind(hour, "stripe 999;croft a 1 0 " + hour + ";field a 9 0;");
            e.is("got ahead of hour " + hour, x.field(0, 3), 0);
            x.go(1);
            e.is("got behind hour " + hour, x.field(0, 3), 5);
            x.go(1);
            e.is("got an hour later than " + hour, x.field(0, 3), 10);
        }
        e.is("hour 30 isn't hour 6 of a day", behind(7, "stripe 999;croft a 1 0 30;field a 9 0;").field(0, 3), 0);
        e.is("hour 24 isn't hour 0 of a day", behind(1, "stripe 999;croft a 1 0 24;field a 9 0;").field(0, 3), 0);
    }

    private void byNumbers() {
        e.by(TERMS, "by numbers each CROFT");
        WeedStrand x = behind(1, "stripe 7;croft b 1 0 0;croft a 1 0 0;field a 9 0;field b 9 0;");
        e.is("croft 0 is first", x.field(1, 3), 5);
        e.is("croft 1 is second", x.field(0, 3), 2);
        WeedStrand y = behind(1, "stripe 17;croft d 1 0 0;croft c 1 0 0;croft b 1 0 0;croft a 1 0 0;"
            + "field a 9 0;field b 9 0;field c 9 0;field d 9 0;");
        int[] due = {2, 5, 5, 5};
        for (int f = 0; f < 4; f++) {
            e.is("field " + f + " of four", y.field(f, 3), due[f]);
        }
        WeedStrand z = behind(2, "stripe 8;croft b 1 0 1;croft a 1 0 0;field a 9 0;field b 9 0;");
        e.is("an hour of one alone, then croft 0", z.field(1, 3), 3);
        e.is("nothing is left for croft 1", z.field(0, 3), 5);
    }

    private void ruledActs() {
        e.by(TERMS, "0 as the rule says: free, lots: it carts;");
        for (String rule : new String[] {"free", "lots"}) {
            WeedStrand x = behind(1, "stripe 20;croft a 1 0 0;field a 9 0;heap 4;rule " + rule + ";");
            e.is("got by " + rule, x.field(0, 3), 5);
            e.is("the heap by " + rule, x.count(7), 4);
            e.lies("by " + rule, x, 15);
        }
    }

    private void savedActs() {
        e.by(TERMS, "saved: it forks, if anything LIES on any STRIPE, else it carts;");
        String field = "croft a 1 0 0;field a 9 0;rule saved;heap 4;";
        WeedStrand x = behind(1, "stripe 0;stripe 1;stripe 0;" + field);
        e.lies("one ton is anything", x, 0, 0, 0);
        e.is("the heap", x.count(7), 5);
        e.is("got", x.field(0, 3), 0);
        x.go(1);
        e.is("else it carts of the heap", x.count(7), 0);
        e.is("got", x.field(0, 3), 5);
        WeedStrand y = behind(1, "stripe 0;" + field);
        e.is("nothing lies", y.field(0, 3), 4);
        WeedStrand z = behind(1, field);
        e.is("no stripes", z.field(0, 3), 4);
        WeedStrand w = behind(1, "stripe 3;croft a 1 0 0;croft b 1 0 0;field a 9 0;field b 9 0;rule saved;");
        e.is("croft 0 forks the last", w.croft(0, 5), 3);
        e.is("so croft 1 carts in the same hour", w.field(1, 3), 3);
        WeedStrand v = behind(1, "stripe 9;croft a 1 0 0;field a 9 0;rule saved;law fork 0;");
        e.is("it forks nothing, yet it doesn't cart", v.field(0, 3), 0);
    }

    private void actsTold() {
        e.by(TERMS, "1 it carts, 2 it forks, 3 it rests (0 at first, till told otherwise).");
        String[] rules = {"free", "lots", "saved"};
        for (String rule : rules) {
            String text = "stripe 20;croft a 1 0 0;field a 9 0;rule " + rule + ";";
            int[] got = {5, 0, 0};
            int[] heap = {0, 8, 0};
            for (int act = 1; act <= 3; act++) {
                WeedStrand x = Due.strand(text);
                e.is("at first", x.croft(0, 3), 0);
                x.act(0, act);
                x.go(1);
                e.is("got by act " + act + " and " + rule, x.field(0, 3), got[act - 1]);
                e.is("forked by act " + act + " and " + rule, x.croft(0, 5), heap[act - 1]);
                e.lies("by act " + act + " and " + rule, x, 20 - got[act - 1] - heap[act - 1]);
                x.go(1);
                e.is("the act lasts", x.croft(0, 3), act);
                e.is("got by act " + act + " in two hours", x.field(0, 3), 2 * got[act - 1]);
                x.act(0, 0);
                e.is("told otherwise", x.croft(0, 3), 0);
            }
        }
        WeedStrand y = Due.strand("croft a 1 0 0;field a 9 0;heap 7;");
        y.act(0, 3);
        y.go(1);
        e.is("who rests leaves the heap", y.count(7), 7);
        y.act(0, 2);
        y.go(1);
        e.is("nothing to fork: the heap stays", y.count(7), 7);
    }

    // ---- tides

    private void ebbs() {
        e.by(TERMS, "(2) with a TIDE at this HOUR of the day of each STRIPE E of ebb");
        WeedStrand x = behind(1, "stripe 10;stripe 0;stripe 31;heap 9;tide 0;law ebb lies/10+1;");
        e.lies("of each stripe", x, 8, 0, 27);
        e.is("the sea", x.count(8), 2 + 4);
        e.is("the heap stays", x.count(7), 9);
        e.lies("of all eight", behind(1, "stripe 10;".repeat(8) + "tide 0;"), 5, 5, 5, 5, 5, 5, 5, 5);
        WeedStrand y = behind(1, "stripe 10;stripe 30;tide 1;law ebb lies;");
        e.lies("not at this hour", y, 10, 30);
        y.go(1);
        e.lies("at this hour", y, 0, 0);
        WeedStrand z = behind(99, "stripe 10;");
        e.lies("without tides", z, 10);
        WeedStrand w = behind(1, "stripe 9;croft a 1 0 0;field a 9 0;tide 0;");
        e.is("ahead of the tide a croft acts", w.field(0, 3), 5);
        e.lies("then the tide takes", w, 2);
    }

    private void ebbLaws() {
        e.by(TERMS, "(put to 0 .. what LIES; half of it, cut, without, with an ERROR) goes to the SEA.");
        String[] laws = {"0-1", "0", "1", "lies-1", "lies", "lies+1", "9999", "1/0", "0-9999*9999"};
        int[] gone = {0, 0, 1, 10, 11, 11, 11, 5, 0};
        int[] goneOfOne = {0, 0, 1, 0, 1, 1, 1, 0, 0};
        for (int i = 0; i < laws.length; i++) {
            WeedStrand x = behind(1, "stripe 11;stripe 1;stripe 0;tide 0;law ebb " + laws[i] + ";");
            e.lies("by ebb " + laws[i], x, 11 - gone[i], 1 - goneOfOne[i], 0);
            e.is("the sea by ebb " + laws[i], x.count(8), gone[i] + goneOfOne[i]);
        }
        WeedStrand x = behind(1, "stripe 11;stripe 12;stripe 1;stripe 0;tide 0;");
        e.lies("half of it, cut, without", x, 6, 6, 1, 0);
        e.is("the sea", x.count(8), 11);
        WeedStrand y = behind(1, "stripe 11;stripe 12;tide 0;law ebb 8/(lies-11);");
        e.lies("with an error on one stripe alone", y, 6, 4);
    }

    private void daysOfTides() {
        e.by(TERMS, "with a TIDE at this HOUR of the day");
        WeedStrand x = Due.strand("stripe 64;tide 0;tide 23;law ebb 1;");
        int gone = 0;
        for (int hour = 0; hour < 50; hour++) {
            x.go(1);
            gone += hour % 24 == 0 || hour % 24 == 23 ? 1 : 0;
            e.is("the sea behind hour " + hour, x.count(8), gone);
        }
        e.is("the sea behind 98 hours more", x.go(98), 148);
        e.is("the sea then", x.count(8), 13);
    }

    private void hoursOfTheDay() {
        e.by(TERMS, "Then it is the next HOUR (its day HOUR is it modulo 24).");
        WeedStrand x = Due.strand("stripe 9;law ebb hour;");
        for (int hour = 0; hour <= 50; hour++) {
            e.is("hour", x.count(5), hour);
            e.is("hour of the day " + hour, x.law(2, 0, 0), hour % 24);
            x.go(1);
        }
        for (int i = 0; i < 100; i++) {
            x.go(99);
        }
        x.go(48);
        e.is("the last hour", x.count(5), 9999);
        e.is("its hour of the day", x.law(2, 0, 0), 15);
    }

    // ---- sources

    private void source(String text, int croft, int toCart, int toFork) {
        WeedStrand x = Due.strand(text);
        e.is("to cart in " + text, x.source(croft, TO_CART), toCart);
        e.is("to fork in " + text, x.source(croft, TO_FORK), toFork);
    }

    private void sourceFree() {
        e.by(TERMS, "SOURCE of a CROFT: by the rule free the STRIPE on which most LIES,");
        String croft = "croft a 1 0 0;";
        source("stripe 5;stripe 9;stripe 8;" + croft, 0, 1, 1);
        source("stripe 9;stripe 5;" + croft, 0, 0, 0);
        source("stripe 5;stripe 9;stripe 9;" + croft, 0, 1, 1);
        source("stripe 0;stripe 0;stripe 1;heap 99;" + croft, 0, 2, 2);
        source("stripe 5;stripe 9;" + croft + "croft b 1 0 0;", 0, 1, 1);
        source("stripe 1;stripe 1;stripe 1;stripe 1;stripe 1;stripe 1;stripe 1;stripe 2;" + croft, 0, 7, 7);
    }

    private void sourceByLots() {
        e.by(TERMS, "by lots that of its own LOTS, of several the first (none, if nothing LIES there);");
        String crofts = "croft a 1 0 0;croft b 1 0 0;rule lots;";
        source("stripe 5;stripe 9;stripe 6;stripe 9;" + crofts, 0, 2, 2);
        source("stripe 5;stripe 9;stripe 5;stripe 9;" + crofts, 0, 0, 0);
        source("stripe 5;stripe 9;stripe 6;stripe 9;" + crofts, 1, 1, 1);
        source("stripe 9;stripe 0;stripe 9;stripe 0;" + crofts, 1, NOWHERE, NOWHERE);
        source("stripe 9;stripe 0;stripe 9;stripe 0;heap 1;" + crofts, 1, HEAP, NOWHERE);
        source("stripe 9;" + crofts, 1, NOWHERE, NOWHERE);
        source("stripe 9;stripe 1;heap 99;" + crofts, 1, 1, 1);
        WeedStrand x = Due.strand("stripe 9;stripe 0;" + crofts);
        x.act(1, 2);
        x.go(1);
        e.is("nothing to fork on its lots", x.croft(1, 5), 0);
        x.lot(0, 1);
        e.is("a lot by call", x.source(1, TO_FORK), 0);
        e.is("none is left", x.source(0, TO_FORK), NOWHERE);
    }

    private void sourceSaved() {
        e.by(TERMS, "by saved as by free, but the HEAP ahead of STRIPES, if there is any (to fork: STRIPES alone);");
        String croft = "croft a 1 0 0;croft b 1 0 0;rule saved;";
        source("stripe 5;stripe 9;stripe 9;" + croft, 0, 1, 1);
        source("stripe 5;stripe 9;stripe 9;heap 1;" + croft, 0, HEAP, 1);
        source("stripe 5;stripe 9;stripe 9;heap 0;" + croft, 0, 1, 1);
        source("stripe 0;heap 1;" + croft, 0, HEAP, NOWHERE);
        source("stripe 5;stripe 9;heap 999;" + croft, 1, HEAP, 1);
        WeedStrand x = Due.strand("stripe 9;croft a 1 0 0;field a 9 0;heap 3;rule saved;");
        x.act(0, 1);
        x.go(1);
        e.is("of the heap first", x.count(7), 0);
        e.lies("not of the stripe", x, 9);
        x.go(1);
        e.lies("of the stripe then", x, 4);
    }

    private void sourceOfNoStripe() {
        e.by(TERMS, "without any such the HEAP, if there is any (to cart alone).");
        String croft = "croft a 1 0 0;";
        for (String rule : new String[] {"free", "lots", "saved"}) {
            String ruled = croft + "rule " + rule + ";";
            source(ruled, 0, NOWHERE, NOWHERE);
            source("stripe 0;" + ruled, 0, NOWHERE, NOWHERE);
            source("heap 1;" + ruled, 0, HEAP, NOWHERE);
            source("stripe 0;heap 1;" + ruled, 0, HEAP, NOWHERE);
            source("stripe 0;heap 0;" + ruled, 0, NOWHERE, NOWHERE);
        }
        WeedStrand x = Due.strand("stripe 0;croft a 1 0 0;field a 9 0;heap 7;");
        x.act(0, 2);
        x.go(1);
        e.is("none forks of the heap", x.count(7), 7);
        e.is("nothing forked", x.croft(0, 5), 0);
        x.act(0, 1);
        x.go(2);
        e.is("it is carted", x.field(0, 3), 7);
        e.is("the heap", x.count(7), 0);
    }

    // ---- carting and forking

    private void greatestWorth() {
        e.by(TERMS, "It carts: into its FIELD with the greatest WORTH (of several the first;");
        String[] wants = {"5 9 7", "5 9 9", "9 9 9", "0 0 0", "9 8 7", "7 8 9"};
        int[] into = {1, 1, 0, 0, 0, 2};
        for (int i = 0; i < wants.length; i++) {
            String[] three = wants[i].split(" ");
            WeedStrand x = behind(1, "stripe 99;croft b 0 0 50;croft a 1 0 0;field b 99 0;field a " + three[0] + " 0;field a " + three[1]
                + " 0;field a " + three[2] + " 0;");
            for (int f = 0; f < 3; f++) {
                e.is("got of field " + f + " of worth " + wants[i], x.field(1 + f, 3), f == into[i] ? 5 : 0);
            }
            e.is("no field of another croft", x.field(0, 3), 0);
            e.is("gain", x.croft(1, 4), 5 * Integer.parseInt(three[into[i]]));
        }
        WeedStrand last = behind(1, "stripe 99;croft a 1 0 0;" + "field a 8 0;".repeat(5) + "field a 9 0;");
        e.is("the last of six", last.field(5, 3), 5);
        WeedStrand y = behind(1, "stripe 99;croft a 1 0 0;field a 9 1;field a 9 2;law worth 200+sort;");
        e.is("worth is put ahead of that", y.field(0, 3), 5);
    }

    private void noFieldNoSource() {
        e.by(TERMS, "without FIELDS, without a SOURCE nothing)");
        WeedStrand x = behind(3, "stripe 9;croft a 5 0 0;croft b 5 0 99;field b 9 0;heap 7;");
        e.lies("without fields", x, 9);
        e.is("the heap", x.count(7), 7);
        e.is("no field of another croft", x.count(9), 0);
        WeedStrand y = behind(3, "stripe 0;croft a 5 0 0;field a 9 0;");
        e.is("without a source", y.field(0, 3), 0);
        e.is("without a source", y.croft(0, 4), 0);
        e.is("without a source", y.count(7), 0);
        WeedStrand z = behind(1, "croft a 5 0 0;field a 9 0;");
        e.is("without a stripe", z.field(0, 3), 0);
    }

    private int loadBy(String law) {
        return behind(1, "stripe 999;croft a 3 2 0;field a 9 0;law load " + law + ";").field(0, 3);
    }

    private void loadLaws() {
        e.by(TERMS, "E of load (put to 0 .. 99;");
        String[] laws = {"0-9999*9999", "0-1", "0", "1", "98", "99", "100", "9999", "9999*9999*9999", "2<3"};
        int[] due = {0, 0, 0, 1, 98, 99, 99, 99, 99, 1};
        for (int i = 0; i < laws.length; i++) {
            e.is("load " + laws[i], loadBy(laws[i]), due[i]);
        }
    }

    private void loadWithoutLaw() {
        e.by(TERMS, "without, with an ERROR 5 times CARTS less HILL, 0 at least;");
        int[][] cartsHillDue = {{0, 0, 0}, {0, 9, 0}, {1, 0, 5}, {1, 4, 1}, {1, 5, 0}, {1, 6, 0}, {2, 9, 1}, {5, 0, 25}, {5, 9, 16}};
        for (int[] one : cartsHillDue) {
            String text = "stripe 99;croft a " + one[0] + " " + one[1] + " 0;field a 9 0;";
            WeedStrand x = behind(1, text);
            e.is("without: " + text, x.field(0, 3), one[2]);
            e.lies("without: " + text, x, 99 - one[2]);
            e.is("gain: " + text, x.croft(0, 4), 9 * one[2]);
            WeedStrand y = behind(1, text + "law load 1/0;");
            e.is("with an error: " + text, y.field(0, 3), one[2]);
        }
    }

    private void loadOfWhatThereIs() {
        e.by(TERMS, "no more than there is):");
        int[][] liesDue = {{1, 1}, {4, 4}, {5, 5}, {6, 5}};
        for (int[] one : liesDue) {
            WeedStrand x = behind(1, "stripe " + one[0] + ";croft a 1 0 0;field a 9 0;");
            e.is("of " + one[0] + " tons", x.field(0, 3), one[1]);
            e.lies("of " + one[0] + " tons", x, one[0] - one[1]);
            WeedStrand y = behind(1, "heap " + one[0] + ";croft a 1 0 0;field a 9 0;");
            e.is("of " + one[0] + " tons on the heap", y.field(0, 3), one[1]);
            e.is("left of " + one[0] + " tons on the heap", y.count(7), one[0] - one[1]);
        }
        e.is("by a law", behind(1, "stripe 3;croft a 1 0 0;field a 9 0;law load 99;").field(0, 3), 3);
        e.is("of one stripe alone", behind(1, "stripe 3;stripe 2;croft a 1 0 0;field a 9 0;").field(0, 3), 3);
    }

    private void gainByWorthAhead() {
        e.by(TERMS, "the FIELD GOT that, the CROFT's GAIN is more by WORTH (as it was ahead) times that.");
        WeedStrand x = behind(1, "stripe 99;croft a 1 0 0;field a 7 0;");
        e.is("got", x.field(0, 3), 5);
        e.is("gain", x.croft(0, 4), 35);
        e.is("worth behind it", x.field(0, 4), 2);
        x.go(1);
        e.is("gain of 2 a ton", x.croft(0, 4), 45);
        x.go(1);
        e.is("gain of nothing", x.croft(0, 4), 45);
        e.is("got, though", x.field(0, 3), 15);
        WeedStrand y = behind(1, "stripe 999;croft a 1 0 0;field a 7 0;law worth 99;law load 99;");
        e.is("the most in an hour", y.croft(0, 4), 99 * 99);
        WeedStrand z = behind(2, "stripe 99;croft a 1 0 0;field a 7 0;law worth got;");
        e.is("worth more by what it got", z.croft(0, 4), 25);
    }

    private void forks() {
        e.by(TERMS, "from its SOURCE onto the HEAP; it FORKED so much more.");
        WeedStrand x = Due.strand("stripe 20;stripe 30;croft a 1 0 0;croft b 1 0 0;heap 5;field a 9 0;");
        x.act(1, 2);
        x.act(0, 3);
        x.go(1);
        e.lies("from the source", x, 20, 22);
        e.is("the heap", x.count(7), 13);
        e.is("it forked", x.croft(1, 5), 8);
        e.is("the other didn't", x.croft(0, 5), 0);
        x.go(1);
        e.lies("from the source", x, 20, 14);
        e.is("so much more", x.croft(1, 5), 16);
        e.is("no gain", x.count(10), 0);
        e.is("no field got any", x.count(9), 0);
        e.is("the sea", x.count(8), 0);
    }

    private void forkLaws() {
        e.by(TERMS, "It forks: E of fork (put to 0 .. 99; 8 without, with an ERROR; no more than LIES)");
        String[] laws = {"0-9999*9999", "0-1", "0", "1", "99", "100", "9999", "1/0", "lies"};
        int[] due = {0, 0, 0, 1, 99, 99, 99, 8, 99};
        for (int i = 0; i < laws.length; i++) {
            WeedStrand x = Due.strand("stripe 400;croft a 3 2 0;law fork " + laws[i] + ";");
            x.act(0, 2);
            x.go(1);
            e.is("forked by " + laws[i], x.croft(0, 5), due[i]);
            e.is("the heap by " + laws[i], x.count(7), due[i]);
            e.lies("by " + laws[i], x, 400 - due[i]);
        }
        int[][] liesDue = {{1, 1}, {7, 7}, {8, 8}, {9, 8}};
        for (int[] one : liesDue) {
            WeedStrand x = Due.strand("stripe " + one[0] + ";croft a 3 2 0;");
            x.act(0, 2);
            x.go(1);
            e.is("forked of " + one[0], x.croft(0, 5), one[1]);
            e.lies("of " + one[0], x, one[0] - one[1]);
        }
    }

    // ---- worth and names

    private void worth() {
        e.by(TERMS, "without, with an ERROR WANTS less what it GOT, 0 at least).");
        WeedStrand x = Due.strand("stripe 99;croft a 1 0 0;field a 12 0;");
        int[] due = {12, 7, 2, 0, 0};
        WeedStrand y = Due.strand("stripe 99;croft a 1 0 0;field a 12 0;law worth 1/0;");
        for (int hours = 0; hours < due.length; hours++) {
            e.is("worth behind " + hours + " hours", x.field(0, 4), due[hours]);
            e.is("with an error behind " + hours + " hours", y.field(0, 4), due[hours]);
            x.go(1);
            y.go(1);
        }
        WeedStrand z = behind(1, "stripe 99;croft a 1 0 0;field a 5 0;");
        e.is("just what it wants", z.field(0, 4), 0);
        e.is("wants nothing", Due.strand("croft a 1 0 0;field a 0 0;").field(0, 4), 0);
        e.is("wants most", Due.strand("croft a 1 0 0;field a 99 0;").field(0, 4), 99);
    }

    private void worthLaws() {
        e.by(TERMS, "WORTH of a FIELD: E of worth (put to 0 .. 99;");
        String[] laws = {"0-9999*9999", "0-1", "0", "1", "99", "100", "9999"};
        int[] due = {0, 0, 0, 1, 99, 99, 99};
        for (int i = 0; i < laws.length; i++) {
            WeedStrand x = Due.strand("stripe 9;croft a 1 0 0;field a 12 0;law worth " + laws[i] + ";");
            e.is("worth " + laws[i], x.field(0, 4), due[i]);
            x.go(1);
            e.is("gain by worth " + laws[i], x.croft(0, 4), 5 * due[i]);
            e.is("got by worth " + laws[i], x.field(0, 3), 5);
        }
    }

    private static final String NAMED = "stripe 41;stripe 42;croft b 4 5 99;croft a 2 3 99;field b 31 8;field a 32 7;heap 43;";

    private void namedLies() {
        e.by(TERMS, "NAMES: lies: what LIES on the STRIPE, is on the HEAP (of worth 0);");
        WeedStrand x = Due.strand(NAMED + "law load lies;law fork lies;law ebb lies;law worth 50+lies;");
        for (int s = 0; s < 2; s++) {
            e.is("load at " + s, x.law(0, 1, s), 41 + s);
            e.is("fork at " + s, x.law(1, 1, s), 41 + s);
            e.is("ebb at " + s, x.law(2, s, 0), 41 + s);
            e.is("worth of " + s, x.law(3, s, 0), 50);
        }
        e.is("load at the heap", x.law(0, 0, -3), 43);
        e.is("carting of the heap", behind(1, "heap 40;croft a 1 0 0;field a 9 0;law load lies/4;").field(0, 3), 10);
        e.is("worth behind a load", behind(1, "stripe 9;croft a 1 0 0;field a 9 0;law worth 1+lies;").croft(0, 4), 5);
    }

    private void namedCarts() {
        e.by(TERMS, "carts, hill: of the CROFT (of ebb 0; of worth its CROFT's);");
        String law = "carts*10+hill;";
        WeedStrand x = Due.strand(NAMED + "law load " + law + "law fork " + law + "law ebb 70+" + law + "law worth " + law);
        for (int s = 0; s < 2; s++) {
            e.is("load of 0 at " + s, x.law(0, 0, s), 45);
            e.is("load of 1 at " + s, x.law(0, 1, s), 23);
            e.is("fork of 0 at " + s, x.law(1, 0, s), 45);
            e.is("fork of 1 at " + s, x.law(1, 1, s), 23);
            e.is("ebb of " + s, x.law(2, s, 1), 70);
        }
        e.is("load at the heap", x.law(0, 1, -3), 23);
        e.is("worth of a field of croft 0", x.law(3, 0, 1), 45);
        e.is("worth of a field of croft 1", x.law(3, 1, 0), 23);
        x.lend(0, 1);
        e.is("carts lent", x.law(3, 0, 1), 35);
        e.is("carts lent", x.law(0, 1, 0), 33);
    }

    private void namedHour() {
        e.by(TERMS, "hour: of the day;");
        WeedStrand x = Due.strand(NAMED + "law load hour;law fork hour;law ebb hour;law worth hour;");
        for (int hour : new int[] {0, 1, 23, 24, 25, 48, 71}) {
            x.go(hour - x.count(5));
            e.is("load at hour " + hour, x.law(0, 0, 0), hour % 24);
            e.is("load of the heap at hour " + hour, x.law(0, 0, -3), hour % 24);
            e.is("fork at hour " + hour, x.law(1, 0, 0), hour % 24);
            e.is("ebb at hour " + hour, x.law(2, 0, 0), hour % 24);
            e.is("worth at hour " + hour, x.law(3, 0, 0), hour % 24);
            e.is("its worth at hour " + hour, x.field(0, 4), hour % 24);
        }
        e.is("carting by the hour", behind(4, "stripe 99;croft a 1 0 0;field a 9 0;law load hour;").field(0, 3), 6);
        e.is("tides by the hour", behind(27, "stripe 99;tide 2;law ebb hour;").stripe(0, 0), 95);
    }

    private void namedField() {
        e.by(TERMS, "got, wants, sort: of the FIELD (of others 0).");
        String law = "got+100*(wants+100*sort);";
        WeedStrand x = behind(1, "stripe 41;croft b 4 5 9;croft a 2 3 0;field b 31 8;field a 32 7;law worth " + law);
        e.is("worth of 0", x.law(3, 0, 0), 83100);
        e.is("worth of 1", x.law(3, 1, 0), 73207);
        WeedStrand w = behind(1, "stripe 41;croft b 4 5 9;croft a 2 3 0;field a 32 7;field b 31 8;law worth " + law);
        e.is("worth of 0, of croft 1", w.law(3, 0, 0), 73207);
        e.is("worth of 1, of croft 0", w.law(3, 1, 0), 83100);
        WeedStrand y = behind(1, "stripe 41;croft a 2 3 0;field a 32 7;law load 3+" + law + "law fork 4+" + law + "law ebb 5+" + law);
        e.is("got", y.field(0, 3), 3);
        e.is("worth", y.field(0, 4), 29);
        e.is("load", y.law(0, 0, 0), 3);
        e.is("load of the heap", y.law(0, 0, -3), 3);
        y.field(0, 4);
        e.is("fork", y.law(1, 0, 0), 4);
        y.field(0, 4);
        e.is("ebb", y.law(2, 0, 0), 5);
        y.go(1);
        e.is("load in the next hour", y.field(0, 3), 6);
    }

    private void allNames() {
        e.by(TERMS, "NAMES: lies:");
        String text = "stripe 41;croft a 2 3 26;field a 32 7;heap 43;law ";
        long place = 41 + 100 * 2 + 1000 * 3 + 10000 * 2;
        e.is("load", behind(26, text + "load " + ALL_NAMES + ";").law(0, 0, 0), place);
        e.is("load of the heap", behind(26, text + "load " + ALL_NAMES + ";").law(0, 0, -3), place + 2);
        e.is("fork", behind(26, text + "fork " + ALL_NAMES + ";").law(1, 0, 0), place);
        e.is("ebb", behind(26, text + "ebb " + ALL_NAMES + ";").law(2, 0, 0), 41 + 10000 * 2);
        WeedStrand x = behind(26, text + "worth " + ALL_NAMES + ";law load 5;");
        e.is("worth", x.law(3, 0, 0), place - 41 + 32 * 100000000L + 7 * 10000000000L);
        x.go(1);
        e.is("worth of a field that got", x.law(3, 0, 0), place - 41 + 10000 + 5 * 1000000 + 32 * 100000000L + 7 * 10000000000L);
    }

    // ---- values

    private void value(String law, long want) {
        e.is("value of " + law, Due.strand("stripe 1;law ebb " + law + ";").law(2, 0, 0), want);
    }

    private void valuesAreLongs() {
        e.by(TERMS, "VALUES are longs;");
        value("9999*9999", 99980001L);
        value("9999*9999*9999", 999700029999L);
        value("0-9999*9999*9999", -999700029999L);
        value("8192*8192*8192", 549755813888L);
        value("(8192*8192*8192)/(8192*8192)", 8192);
        value("8192*8192*8192>8192*8192*8191", 1);
    }

    private void truth() {
        e.by(TERMS, "comparisons, and, or, not are 1 or 0 (what isn't 0 is as 1,");
        value("5 and 7", 1);
        value("5 and 0", 0);
        value("0 and 5", 0);
        value("(0-5) and 1", 1);
        value("0 or 9", 1);
        value("9 or 0", 1);
        value("0 or 0", 0);
        value("(0-9) or 0", 1);
        value("not 7", 0);
        value("not (0-1)", 0);
        value("not 0", 1);
        value("(3<4)+(3<=4)+(3<>4)+(4>=3)+(4>3)+(4=4)", 6);
        value("(4<3)+(4<=3)+(4<>4)+(3>=4)+(3>4)+(4=3)", 0);
        value("8192*8192*8192 and 8192*8192*8192", 1);
    }

    private void bothSides() {
        e.by(TERMS, "both sides are worked out),");
        value("1 or 1/0", ERROR);
        value("1/0 or 1", ERROR);
        value("0 and 1/0", ERROR);
        value("1/0 and 0", ERROR);
        value("1 or 9999*9999*9999*9999", ERROR);
        value("not (1/0)", ERROR);
        value("1/0=1/0", ERROR);
        value("0*(1/0)", ERROR);
    }

    private void divisions() {
        e.by(TERMS, "/ is cut towards 0;");
        value("7/2", 3);
        value("(0-7)/2", -3);
        value("7/(0-2)", -3);
        value("(0-7)/(0-2)", 3);
        value("1/2", 0);
        value("(0-1)/2", 0);
        value("0/7", 0);
        value("6/3", 2);
        value("(0-6)/3", -2);
    }

    private void errors() {
        e.by(TERMS, "ERROR: / by 0, a value above 10 to the 12 or below 0 by more than that.");
        String most = "1000*1000*1000*1000";
        value("1/0", ERROR);
        value("0/0", ERROR);
        value("1/(2-2)", ERROR);
        value(most, 1000000000000L);
        value(most + "+1", ERROR);
        value(most + "-1", 999999999999L);
        value("0-" + most, -1000000000000L);
        value("0-" + most + "-1", ERROR);
        value("0-" + most + "+1", -999999999999L);
        value("0-1-" + most, ERROR);
        value(most + "+1-1", ERROR);
        value("(" + most + "+1)*0", ERROR);
        value("(" + most + "+1)/2", ERROR);
        value(most + "*(0-1)", -1000000000000L);
        value("(0-1)*(" + most + ")", -1000000000000L);
        value("(0-" + most + ")/(0-1)", 1000000000000L);
        value(most + "*1", 1000000000000L);
        value(most + "*2", ERROR);
        value("(0-" + most + ")*2", ERROR);
        value(most + "*(" + most + ")", ERROR);
        value("(0-" + most + ")*(" + most + ")", ERROR);
        value("(0-" + most + ")*(0-" + most + ")", ERROR);
        value(most + "*0", 0);
        value("0*(" + most + ")", 0);
        // products that a long brings round to 0, or to little
        String wide = "(8192*8192*8192)";
        String negative = "(0-8192*8192*8192)";
        value(wide + "*(8192*8192)", ERROR);
        value(negative + "*(8192*8192)", ERROR);
        value(wide + "*(0-8192*8192)", ERROR);
        value(negative + "*(0-8192*8192)", ERROR);
        value("8192*8192*" + wide, ERROR);
        value("(0-8192*8192)*" + wide, ERROR);
        value("8192*8192*" + negative, ERROR);
        value("(0-8192*8192)*" + negative, ERROR);
        value("8192*8192*8192*(4096*8192*1024)", ERROR);
        value("(256*256*256*256+1)*(256*256*256*256)", ERROR);
        value(most + "+(" + most + ")", ERROR);
        value("0-" + most + "-(" + most + ")", ERROR);
        value(most + "-(" + most + ")", 0);
    }

    // ---- numbers and gales

    private static long next(long number) {
        return number * 1103515245L + 12345L & 0x7fffffffL;
    }

    private void numbers() {
        e.by(TERMS, "Numbers: the last one, whole (at first the seed), times 1103515245 and 12345, without what is above 31 bits, is the next one, whole;");
        int[] seeds = {0, 1, 4, 99999, 54321};
        for (int seed : seeds) {
            WeedStrand x = Due.strand("stripe 0;gale 50 1;seed " + seed + ";");
            long number = seed;
            int lies = 0;
            for (int hour = 0; hour < 90; hour++) {
                number = next(number);
                lies += number / 65536 % 100 < 50 ? 1 : 0;
                x.go(1);
                e.is("lies behind hour " + hour + " by seed " + seed, x.stripe(0, 0), lies);
            }
        }
        e.is("from seed 0", next(0), 12345);
        e.is("and on", next(12345), 1406932606);
    }

    private void numbersTold() {
        e.by(TERMS, "what is told of it is that by 65536.");
        for (int seed = 1; seed < 60; seed += 7) {
            long told = next(seed) / 65536 % 100;
            int odds = (int) told;
            WeedStrand x = behind(1, "stripe 0;gale " + odds + " 1;seed " + seed + ";");
            e.is("odds " + odds + " by seed " + seed, x.stripe(0, 0), 0);
            WeedStrand y = behind(1, "stripe 0;gale " + (odds + 1) + " 1;seed " + seed + ";");
            e.is("odds " + (odds + 1) + " by seed " + seed, y.stripe(0, 0), 1);
        }
    }

    private void galesByNumbers() {
        e.by(TERMS, "A GALE, by numbers alone: ahead of each HOUR, if the odds are above 0, a number modulo 100: if it is below them,");
        e.is("odds 0: none, though the number is 0", behind(1, "stripe 0;gale 0 9;seed 0;").stripe(0, 0), 0);
        e.is("odds 1: the number 0 is below", behind(1, "stripe 0;gale 1 9;seed 0;").stripe(0, 0), 9);
        e.is("odds 0: none in 99 hours", behind(99, "stripe 0;gale 0 9;").stripe(0, 0), 0);
        e.is("odds 100: one ahead of each hour", behind(99, "stripe 0;gale 100 9;").stripe(0, 0), 891);
        e.is("ahead of who acts", behind(1, "stripe 0;croft a 1 0 0;field a 9 0;gale 100 3;").field(0, 3), 3);
        e.is("ahead of the tide", behind(1, "stripe 0;tide 0;gale 100 8;").count(8), 4);
        WeedStrand x = Due.strand("stripe 0;gale 50 1;seed 9;");
        WeedStrand y = Due.strand("stripe 0;gale 50 1;seed 9;");
        x.go(40);
        for (int i = 0; i < 40; i++) {
            y.go(1);
            y.go(0);
        }
        e.is("as many numbers in one call", x.stripe(0, 0), y.stripe(0, 0));
    }

    private void galesOnStripes() {
        e.by(TERMS, "so many TONS more LIE on each STRIPE (9999 at most).");
        e.lies("on each", behind(1, "stripe 0;stripe 5;stripe 999;heap 4;gale 100 99;"), 99, 104, 1098);
        e.is("none on the heap", behind(1, "stripe 0;heap 4;gale 100 99;").count(7), 4);
        e.lies("0 tons", behind(1, "stripe 7;gale 100 0;"), 7);
        e.lies("on all eight", behind(1, "stripe 1;".repeat(8) + "gale 100 2;"), 3, 3, 3, 3, 3, 3, 3, 3);
        WeedStrand x = Due.strand("stripe 990;stripe 989;stripe 0;gale 100 91;");
        x.go(99);
        e.lies("behind 99", x, 9999, 9998, 9009);
        x.go(1);
        e.lies("behind 100", x, 9999, 9999, 9100);
        x.go(10);
        e.lies("behind 110", x, 9999, 9999, 9999);
        WeedStrand y = Due.strand("stripe 999;".repeat(8) + "gale 100 99;");
        y.go(99);
        y.go(99);
        e.is("all that lies", y.count(6), 8 * 9999);
    }

    // ---- go

    private void goes() {
        e.by("Promise 15", "So many HOURS (0 .. 99) go by: which one it is;");
        WeedStrand x = Due.strand("stripe 999;croft a 1 0 0;field a 9 0;");
        e.is("go(0)", x.go(0), 0);
        e.is("nothing is carted", x.field(0, 3), 0);
        e.is("go(1)", x.go(1), 1);
        e.is("an hour's load", x.field(0, 3), 5);
        e.is("go(99)", x.go(99), 100);
        e.is("100 hours' loads", x.field(0, 3), 500);
        e.is("go(0)", x.go(0), 100);
        e.is("go of a new object", new WeedStrand().go(99), 99);
    }

    private void goesNone() {
        e.by("Promise 15", "NONE, and none does: no such number, behind 9999.");
        WeedStrand x = Due.strand("stripe 999;croft a 1 0 0;field a 9 0;gale 100 1;");
        e.is("go(-1)", x.go(-1), -1);
        e.is("go(100)", x.go(100), -1);
        for (int n : Edges.FAR) {
            e.is("go(" + n + ")", x.go(n), -1);
        }
        e.is("none does", x.count(5), 0);
        e.is("none does", x.field(0, 3), 0);
        e.lies("none does", x, 999);
        for (int i = 1; i <= 100; i++) {
            x.go(99);
        }
        e.is("hour 9900", x.count(5), 9900);
        e.is("go(98)", x.go(98), 9998);
        int lies = x.stripe(0, 0);
        e.is("go(2), behind 9999", x.go(2), -1);
        e.is("go(99), behind 9999", x.go(99), -1);
        e.is("none does", x.count(5), 9998);
        e.is("none does", x.stripe(0, 0), lies);
        e.is("go(1)", x.go(1), 9999);
        e.is("go(1), behind 9999", x.go(1), -1);
        e.is("go(0)", x.go(0), 9999);
        e.is("hours to come behind 9999", x.table(0, 99, 2), 0);
    }
}
