/** Terms 1 and promises 1 to 5: the text, its limits and its faults, the tape, names. ^ marks the place of a fault. */
final class EdgesOfText {
    private static final String TERMS = "Terms 1";
    private static final long ERROR = Long.MIN_VALUE;
    private static final String[] LINE_WORDS = {"stripe", "croft", "field", "tide", "heap", "rule", "gale", "seed", "law"};
    private static final String[] RULES = {"free", "lots", "saved"};
    private static final String[] KINDS = {"load", "fork", "ebb", "worth"};
    private static final String[] NAMES = {"lies", "carts", "hill", "hour", "got", "wants", "sort"};
    private static final String[] JOINING = {"not", "and", "or"};
    private static final String[] SIGNS = {"<", "<=", "=", "<>", ">=", ">", "+", "-", "*", "/"};
    private static final String[] ONCE = {"heap 1", "rule free", "gale 1 1", "seed 1"};

    private final Edges e;

    EdgesOfText(Edges edges) {
        e = edges;
    }

    void all() {
        textOfLines();
        linesByTheirParts();
        rules();
        kinds();
        words();
        namesOfCrofts();
        numbers();
        blanks();
        or();
        and();
        not();
        comparisons();
        sums();
        products();
        parentheses();
        numbersOfLaws();
        namesOfLaws();
        signsOfTwo();
        stripes();
        crofts();
        fields();
        tides();
        heap();
        rule();
        gale();
        seed();
        numbered();
        lots();
        firstFault();
        leastFault();
        placeOfFault();
        noToken();
        longWord();
        cannotStand();
        moreMustCome();
        numberTooMuch();
        lineTooMuch();
        ninthOpen();
        knots();
        croftToldAlready();
        tideToldAlready();
        onceToldAlready();
        lawToldAlready();
        croftNotTold();
        callsAtMost();
        newObject();
        feed();
        feedFull();
        text();
        textBegins();
        textsBehindTexts();
        textWithFault();
        textOfTooMany();
        faults();
        faultsOfOtherWhat();
        named();
        namedNone();
    }

    private static long value(String law) {
        return Due.strand("stripe 30;croft a 3 2 0;law load " + law + ";").law(0, 0, 0);
    }

    private void value(String law, long want) {
        e.is("value of " + law, value(law), want);
    }

    private static String crofts(int n) {
        StringBuilder text = new StringBuilder();
        for (int c = 0; c < n; c++) {
            text.append("croft ").append((char) ('a' + c)).append(" 1 1 1;");
        }
        return text.toString();
    }

    private static String tides(int n) {
        StringBuilder text = new StringBuilder();
        for (int i = 0; i < n; i++) {
            text.append("tide ").append(i).append(";");
        }
        return text.toString();
    }

    // ---- the lines

    private void textOfLines() {
        e.by(TERMS, "A TEXT: { LINE ';' }.");
        e.told(0, "");
        e.told(0, " \n");
        e.told(1, "heap 1;");
        e.told(2, "heap 1;seed 1;");
        e.fault(1, "^;");
        e.fault(1, "heap 1;^;");
        e.fault(1, "heap 1^");
        e.fault(1, "heap 1 ^seed 1;");
        e.fault(1, "heap 1^)");
    }

    private void linesByTheirParts() {
        e.by(TERMS, "LINE: stripe N | croft W N N N | field W N N | tide N | heap N | rule RULE | gale N N | seed N | law KIND E.");
        String[] one = {"stripe", "tide", "heap", "seed"};
        for (String word : one) {
            e.told(1, word + " 1;");
            e.fault(1, word + " ^;");
            e.fault(1, word + " ^a;");
            e.fault(1, word + " 1 ^1;");
        }
        e.told(1, "gale 1 1;");
        e.fault(1, "gale ^;");
        e.fault(1, "gale 1^;");
        e.fault(1, "gale 1 ^a;");
        e.fault(1, "gale 1 1 ^1;");
        e.told(1, "croft a 1 1 1;");
        e.fault(1, "croft ^;");
        e.fault(1, "croft ^1 1 1;");
        e.fault(1, "croft a^;");
        e.fault(1, "croft a 1^;");
        e.fault(1, "croft a 1 1^;");
        e.fault(1, "croft a ^b 1 1;");
        e.fault(1, "croft a 1 1 1 ^1;");
        e.told(2, "croft a 1 1 1;field a 1 1;");
        e.fault(1, "croft a 1 1 1;field ^;");
        e.fault(1, "croft a 1 1 1;field ^1 1;");
        e.fault(1, "croft a 1 1 1;field a^;");
        e.fault(1, "croft a 1 1 1;field a 1^;");
        e.fault(1, "croft a 1 1 1;field a 1 1 ^1;");
        e.told(1, "rule free;");
        e.fault(1, "rule ^;");
        e.fault(1, "rule free ^lots;");
        e.told(1, "law load 1;");
        e.fault(1, "law ^;");
        e.fault(1, "law ^1;");
        e.fault(1, "law load^;");
        e.fault(1, "law load 1 ^1;");
        String[][] noLines = {RULES, KINDS, NAMES, JOINING, SIGNS, {"a", "1", "(", ")"}};
        for (String[] kind : noLines) {
            for (String word : kind) {
                e.fault(1, "heap 1;^" + word + " 1;");
            }
        }
    }

    private void rules() {
        e.by(TERMS, "RULE: free | lots | saved.");
        for (String word : RULES) {
            e.told(1, "rule " + word + ";");
        }
        String[][] others = {LINE_WORDS, KINDS, NAMES, JOINING, {"a", "fre", "frees", "0", "1", "("}};
        for (String[] kind : others) {
            for (String word : kind) {
                e.fault(1, "rule ^" + word + ";");
            }
        }
    }

    private void kinds() {
        e.by(TERMS, "KIND: load | fork | ebb | worth.");
        WeedStrand x = e.told(7, "stripe 1;croft a 1 1 1;field a 1 1;law worth 3;law ebb 2;law fork 1;law load 0;");
        for (int what = 0; what < 4; what++) {
            e.is("law " + KINDS[what], x.law(what, 0, 0), what);
        }
        String[][] others = {LINE_WORDS, RULES, NAMES, JOINING, {"a", "loa", "loads", "0", "("}};
        for (String[] kind : others) {
            for (String word : kind) {
                e.fault(1, "law ^" + word + " 1;");
            }
        }
    }

    private void words() {
        e.by(TERMS, "Words: small letters in a row;");
        e.told(1, "heap1;");
        e.told(1, "croft az1 1 1;");
        e.fault(1, "^Heap 1;");
        e.fault(1, "^hEap 1;");
        e.fault(1, "^he ap 1;");
        e.fault(1, "^heapheap 1;");
        e.fault(1, "heap 1;^seedheap 1;");
        e.fault(1, "croft ^` 1 1 1;");
        e.fault(1, "croft a^` 1 1 1;");
        e.fault(1, "croft z^{ 1 1 1;");
        e.fault(1, "croft ^Z 1 1 1;");
        e.fault(1, "croft a^A 1 1 1;");
        e.fault(1, "croft a^\u00e9 1 1 1;");
    }

    private void namesOfCrofts() {
        e.by(TERMS, "W: one of 1 .. 6 letters, none of those of the language;");
        e.told(4, "croft a 1 1 1;croft zzzzzz 1 1 1;field zzzzzz 1 1;field a 1 1;");
        e.told(4, "croft strip 1 1 1;croft no 1 1 1;croft ors 1 1 1;croft lawlaw 1 1 1;");
        e.fault(1, "croft ^abcdefg 1 1 1;");
        e.fault(1, "croft abcdef 1 1 1;field ^abcdefg 1 1;");
        String[][] language = {LINE_WORDS, RULES, KINDS, NAMES, JOINING};
        for (String[] kind : language) {
            for (String word : kind) {
                e.fault(1, "croft ^" + word + " 1 1 1;");
                e.fault(1, "croft a 1 1 1;field ^" + word + " 1 1;");
            }
        }
    }

    private void numbers() {
        e.by(TERMS, "N: digits.");
        e.is("0", e.told(1, "heap 0;").count(7), 0);
        e.is("9", e.told(1, "heap 9;").count(7), 9);
        e.is("10", e.told(1, "heap 10;").count(7), 10);
        e.is("0 ahead", e.told(1, "heap 0000000000000000000000000000000000012;").count(7), 12);
        e.fault(1, "heap 1^a;");
        e.fault(1, "heap 1^:;");
        e.fault(1, "heap 1^/;");
        e.fault(1, "heap 1^.5;");
        e.fault(1, "heap ^-1;");
        e.fault(1, "heap ^+1;");
        e.fault(1, "heap 1 ^0;");
        e.fault(1, "heap 0^x1;");
    }

    private void blanks() {
        e.by(TERMS, "Blanks 10, 32.");
        e.told(1, "\n heap\n\n1 \n;  ");
        for (int sign : new int[] {0, 8, 9, 11, 12, 13, 31, 33, 127, 128, 133, 138, 160, 255}) {
            e.fault(1, "heap^" + (char) sign + "1;");
            e.fault(1, "^" + (char) sign);
        }
    }

    // ---- the laws

    private void or() {
        e.by(TERMS, "E: A { or A }.");
        value("0 or 0", 0);
        value("0 or 0 or 1", 1);
        value("1 or 0 and 0", 1);
        value("0 and 0 or 1", 1);
        e.fault(1, "law load ^or 1;");
        e.fault(1, "law load 1 or^;");
        e.fault(1, "law load 1 or ^or 1;");
    }

    private void and() {
        e.by(TERMS, "A: B { and B }.");
        value("1 and 1", 1);
        value("1 and 1 and 0", 0);
        value("not 0 and 0", 0);
        value("0 and not 0", 0);
        value("1 and 1<2 and 2<3", 1);
        e.fault(1, "law load ^and 1;");
        e.fault(1, "law load 1 and^;");
        e.fault(1, "law load 1 and ^and 1;");
    }

    private void not() {
        e.by(TERMS, "B: not B | C.");
        value("not 0", 1);
        value("not not 0", 0);
        value("not 1<1", 1);
        value("not 1<2", 0);
        value("not 2>1", 0);
        value("not 1=0", 1);
        value("1+(not 0)", 2);
        value("2*(not 5)+1<(not 1)+2", 1);
        value("not 1+1", 0);
        value("1 and not not 2", 1);
        value("0 or not 0", 1);
        value("(not 0)+1", 2);
        e.fault(1, "law load not^;");
        e.fault(1, "law load 1 ^not 1;");
        e.fault(1, "law load 1+^not 1;");
        e.fault(1, "law load 1*^not 1;");
        e.fault(1, "law load 1<^not 1;");
        e.fault(1, "law load not ^and 1;");
    }

    private void comparisons() {
        e.by(TERMS, "C: S [ ( < | <= | = | <> | >= | > ) S ].");
        int[][] due = {{1, 0, 0}, {1, 1, 0}, {0, 1, 0}, {1, 0, 1}, {0, 1, 1}, {0, 0, 1}};
        for (int sign = 0; sign < due.length; sign++) {
            value("1" + SIGNS[sign] + "2", due[sign][0]);
            value("2" + SIGNS[sign] + "2", due[sign][1]);
            value("3" + SIGNS[sign] + "2", due[sign][2]);
            e.fault(1, "law load 1" + SIGNS[sign] + "^;");
            e.fault(1, "law load ^" + SIGNS[sign] + "1;");
            e.fault(1, "law load 1" + SIGNS[sign] + "2^<3;");
            e.fault(1, "law load 1<2 ^" + SIGNS[sign] + "3;");
        }
        value("1+1<1+2", 1);
        value("(1<2)<(3<2)", 0);
        value("1<2 and 2<3 or 3<4", 1);
        value("(1<2 and 2<3)=1", 1);
        e.fault(1, "law load not 1<2^<3;");
        e.fault(1, "law load 1<2 and 3<4^=5;");
        e.fault(1, "law load 1<2 or 3<4^=5;");
        e.fault(1, "law load (1<2)<3^<4;");
        e.fault(1, "law load 1<(2<3)^<4;");
        e.fault(1, "law load (1<2^<3);");
        e.told(4, "law load 1<2;law fork 1<2;law ebb (1<2)=(2<3);law worth 1=2;");
    }

    private void sums() {
        e.by(TERMS, "S: T { ( + | - ) T }.");
        value("10-3-2", 5);
        value("10-3+2", 9);
        value("1+2*3-4", 3);
        e.fault(1, "law load ^+1;");
        e.fault(1, "law load ^-1;");
        e.fault(1, "law load 1+^;");
        e.fault(1, "law load 1-^-1;");
    }

    private void products() {
        e.by(TERMS, "T: P { ( * | / ) P }.");
        value("100/10/5", 2);
        value("7/3*2", 4);
        value("2*7/3", 4);
        value("2+3*4", 14);
        value("20-8/4", 18);
        e.fault(1, "law load ^*1;");
        e.fault(1, "law load ^/1;");
        e.fault(1, "law load 1*^;");
        e.fault(1, "law load 1/^/1;");
    }

    private void parentheses() {
        e.by(TERMS, "P: N | NAME | '(' E ')';");
        value("(1)", 1);
        value("(1 or 0)+(2)*((3))", 7);
        value("2*(3+4)", 14);
        value("(2+3)*4", 20);
        e.fault(1, "law load (^);");
        e.fault(1, "law load (1^;");
        e.fault(1, "law load (1^");
        e.fault(1, "law load (1)^);");
        e.fault(1, "law load ^)1;");
        e.fault(1, "law load 1^(1);");
        e.fault(1, "law load (1)^(1);");
        e.fault(1, "law load (1)^1;");
        e.fault(1, "law load (1+^);");
    }

    private void numbersOfLaws() {
        e.by(TERMS, "N of E 0 .. 9999.");
        value("0", 0);
        value("9999", 9999);
        value("00009999", 9999);
        e.fault(2, "law load ^10000;");
        e.fault(2, "law load 1+^99999999999;");
    }

    private void namesOfLaws() {
        e.by(TERMS, "NAME: lies carts hill hour got wants sort.");
        int[] due = {30, 3, 2, 0, 0, 0, 0};
        for (int i = 0; i < NAMES.length; i++) {
            value(NAMES[i], due[i]);
        }
        String[][] others = {LINE_WORDS, RULES, KINDS, {"a", "lie", "liess"}};
        for (String[] kind : others) {
            for (String word : kind) {
                e.fault(1, "croft a 1 1 1;law load ^" + word + ";");
            }
        }
    }

    private void signsOfTwo() {
        e.by(TERMS, "A = (or > behind <) right behind < or > belongs to it.");
        value("1<=1", 1);
        value("1<>1", 0);
        value("1>=1", 1);
        e.fault(1, "law load 1< ^=1;");
        e.fault(1, "law load 1<\n^>1;");
        e.fault(1, "law load 1> ^=1;");
        e.fault(1, "law load 1=^<1;");
        e.fault(1, "law load 1=^>1;");
        e.fault(1, "law load 1=^=1;");
        e.fault(1, "law load 1>^>1;");
        e.fault(1, "law load 1>^<1;");
        e.fault(1, "law load 1<^<1;");
        e.fault(1, "law load 1<=^>1;");
        e.fault(1, "law load 1<>^=1;");
        e.fault(1, "law load 1>=^>1;");
        e.fault(1, "law load 1<=^=1;");
    }

    // ---- how much a text tells

    private void stripes() {
        e.by(TERMS, "STRIPES, at most 8: TONS that LIE 0 .. 999.");
        WeedStrand x = e.told(2, "stripe 0;stripe 999;");
        e.lies("least and most", x, 0, 999);
        e.fault(2, "stripe ^1000;");
        e.is("eight", e.told(8, "stripe 1;".repeat(8)).count(0), 8);
        e.fault(2, "stripe 1;".repeat(8) + "^stripe 1;");
    }

    private void crofts() {
        e.by(TERMS, "CROFTS, at most 4: CARTS 0 .. 5, HILL 0 .. 9, the HOUR 0 .. 99 at which they COME.");
        WeedStrand x = e.told(2, "croft a 0 0 0;croft b 5 9 99;");
        int[] most = {5, 9, 99};
        for (int what = 0; what < 3; what++) {
            e.is("least " + what, x.croft(0, what), 0);
            e.is("most " + what, x.croft(1, what), most[what]);
        }
        e.fault(2, "croft a ^6 0 0;");
        e.fault(2, "croft a 0 ^10 0;");
        e.fault(2, "croft a 0 0 ^100;");
        e.is("four", e.told(4, crofts(4)).count(1), 4);
        e.fault(2, crofts(4) + "^croft e 1 1 1;");
    }

    private void fields() {
        e.by(TERMS, "FIELDS, at most 6: of a CROFT, WANTS 0 .. 99, SORT 0 .. 9.");
        WeedStrand x = e.told(4, "croft a 1 1 1;croft b 1 1 1;field b 0 0;field a 99 9;");
        int[][] due = {{1, 0, 0}, {0, 99, 9}};
        for (int what = 0; what < 3; what++) {
            e.is("least " + what, x.field(0, what), due[0][what]);
            e.is("most " + what, x.field(1, what), due[1][what]);
        }
        e.fault(2, "croft a 1 1 1;field a ^100 0;");
        e.fault(2, "croft a 1 1 1;field a 0 ^10;");
        e.is("six", e.told(7, crofts(1) + "field a 1 1;".repeat(6)).count(2), 6);
        e.fault(2, crofts(1) + "field a 1 1;".repeat(6) + "^field a 1 1;");
    }

    private void tides() {
        e.by(TERMS, "TIDES, at most 4: at an HOUR of the day 0 .. 23 (each once).");
        e.is("least and most", e.told(2, "tide 0;tide 23;").count(3), 2);
        e.fault(2, "tide ^24;");
        e.is("four", e.told(4, tides(4)).count(3), 4);
        e.fault(2, tides(4) + "^tide 4;");
        e.fault(3, "tide 0;tide ^0;");
        e.fault(3, "tide 23;tide 1;tide ^23;");
    }

    private void heap() {
        e.by(TERMS, "heap: TONS on the HEAP 0 .. 999 (0).");
        e.is("least", e.told(1, "heap 0;").count(7), 0);
        e.is("most", e.told(1, "heap 999;").count(7), 999);
        e.is("without", e.told(1, "stripe 9;").count(7), 0);
        e.fault(2, "heap ^1000;");
    }

    private void rule() {
        e.by(TERMS, "rule: 0 free, 1 lots, 2 saved (0 without).");
        for (int rule = 0; rule < RULES.length; rule++) {
            e.is(RULES[rule], e.told(1, "rule " + RULES[rule] + ";").count(11), rule);
        }
        e.is("without", e.told(1, "heap 9;").count(11), 0);
    }

    private static WeedStrand behindAnHour(String text) {
        WeedStrand x = Due.strand(text);
        x.go(1);
        return x;
    }

    private void gale() {
        e.by(TERMS, "gale: of a hundred 0 .. 100 an HOUR, how many TONS a STRIPE 0 .. 99 (0, 0).");
        e.is("least odds", e.told(1, "gale 0 1;").odds(1, 0), 0);
        e.is("most odds", e.told(1, "gale 100 1;").odds(1, 0), 1);
        e.is("odds without", e.told(1, "heap 1;").odds(1, 0), 0);
        e.fault(2, "gale ^101 0;");
        e.fault(2, "gale 0 ^100;");
        e.lies("behind least tons", behindAnHour("stripe 1;stripe 2;gale 100 0;"), 1, 2);
        e.lies("behind most tons", behindAnHour("stripe 1;stripe 2;gale 100 99;"), 100, 101);
        e.lies("without", behindAnHour("stripe 1;stripe 2;"), 1, 2);
    }

    /** The number told of the next one behind this. */
    private static long toldBehind(long number) {
        return (number * 1103515245L + 12345L & 0x7fffffffL) / 65536 % 100;
    }

    private void seed() {
        e.by(TERMS, "seed: 0 .. 99999 (0).");
        for (int seed : new int[] {0, 99999}) {
            long first = toldBehind(seed);
            e.lies("no gale by seed " + seed, behindAnHour("stripe 1;seed " + seed + ";gale " + first + " 5;"), 1);
            e.lies("a gale by seed " + seed, behindAnHour("stripe 1;seed " + seed + ";gale " + (first + 1) + " 5;"), 6);
        }
        e.is("the first number from 0", toldBehind(0), 0);
        e.lies("a gale without a seed", behindAnHour("stripe 1;gale 1 5;"), 6);
        e.fault(2, "seed ^100000;");
    }

    private void numbered() {
        e.by(TERMS, "All numbered as they come; CROFTS have names.");
        WeedStrand x = e.told(8, "stripe 5;croft b 1 2 3;stripe 6;croft a 2 3 4;field a 7 1;stripe 7;field b 8 2;field a 9 3;");
        e.lies("as they come", x, 5, 6, 7);
        e.is("croft b", x.croft(0, 1), 2);
        e.is("croft a", x.croft(1, 1), 3);
        int[][] due = {{1, 7}, {0, 8}, {1, 9}};
        for (int f = 0; f < due.length; f++) {
            e.is("croft of field " + f, x.field(f, 0), due[f][0]);
            e.is("wants of field " + f, x.field(f, 1), due[f][1]);
        }
    }

    private void lots() {
        e.by(TERMS, "LOT: STRIPE s is of CROFT s modulo CROFTS (of none without).");
        for (int n = 1; n <= 4; n++) {
            WeedStrand x = e.told(8 + n, "stripe 1;".repeat(8) + crofts(n));
            for (int s = 0; s < 8; s++) {
                e.is("lot " + s + " of " + n, x.stripe(s, 1), s % n);
            }
        }
        WeedStrand y = e.told(8, "stripe 1;".repeat(8));
        for (int s = 0; s < 8; s++) {
            e.is("lot " + s + " of none", y.stripe(s, 1), -1);
        }
    }

    // ---- faults

    private void firstFault() {
        e.by(TERMS, "FAULTS, the first along the text");
        e.fault(2, "heap ^1000;heap 1;field a 1 1;$");
        e.fault(3, "heap 1;^heap 1000;field a 1 1;$");
        e.fault(4, "field ^a 1000;heap 1;heap 1;$");
        e.fault(1, "heap ^$ 1000;heap 1;field a 1 1;");
        e.fault(3, crofts(1) + "croft ^a 9 99 999;");
        e.fault(2, tides(4) + "^tide 0;");
        e.fault(2, crofts(4) + "^croft a 9 1 1;");
        e.fault(3, "law load 1;law ^load 10000;");
    }

    private void leastFault() {
        e.by(TERMS, "(of one place the least)");
        e.fault(1, "field ^load 1 1;");
        e.fault(1, "field ^abcdefg 1 1;");
        e.fault(1, "law load ((((((((1^();");
        e.fault(1, "law load not 1" + "+1".repeat(31) + " ^1;");
        e.fault(1, "law load not 1" + "+1".repeat(31) + " ^10000;");
        e.fault(1, "law load 1<1" + "+1".repeat(30) + "+^not 1;");
        e.fault(1, "law load not 1<1" + "+1".repeat(30) + "^<1;");
    }

    private void placeOfFault() {
        e.by(TERMS, ", with its place:");
        e.fault(1, "^$");
        e.fault(1, "  \n ^$");
        e.fault(2, "stripe 1 ;\n stripe   ^1000 ;");
        e.fault(4, "\n\n\nfield ^abcdef 1 1;");
        e.fault(1, " ".repeat(699) + "^$");
    }

    private void noToken() {
        e.by(TERMS, "1 a TOKEN that is none");
        for (char sign : "!\"#$%&',.:?@[\\]_`{|}~A\u0000\t\u0080\u00ff".toCharArray()) {
            e.fault(1, "^" + sign);
            e.fault(1, "stripe ^" + sign + "1;");
            e.fault(1, "stripe 1^" + sign + ";");
            e.fault(1, "law load 1^" + sign + ";");
        }
    }

    private void longWord() {
        e.by(TERMS, "(a word of more than 6 letters that isn't of the language, too)");
        e.fault(1, "^stripes 1;");
        e.fault(1, "^stripestripe 1;");
        e.fault(1, "stripe ^zzzzzzz;");
        e.fault(1, "croft ^abcdefg 1 1 1;");
        e.fault(1, "law load ^abcdefgh;");
        e.fault(1, "rule ^freeeee;");
        e.fault(1, "^" + "a".repeat(64) + " 1;");
    }

    private void cannotStand() {
        e.by(TERMS, "or can't stand there");
        String[] tokens = {"stripe", "free", "load", "lies", "not", "a", "1", ";", "(", ")", "<", "<=", "=", "<>", ">=", ">",
            "+", "-", "*", "/"};
        for (String token : tokens) {
            e.fault(1, "croft a 1 1 1 ^" + (token.equals(";") ? ")" : token));
            e.fault(1, token.equals("1") ? "heap ^a;" : "heap ^" + token + " 1;");
            e.fault(1, token.equals("a") ? "croft ^1 1 1;" : "croft ^" + token + " 1 1 1;");
        }
    }

    private void moreMustCome() {
        e.by(TERMS, "(the length, if more must come).");
        String[] cut = {"stripe", "stripe 1", "croft", "croft a", "croft a 1", "croft a 1 1", "croft a 1 1 1", "tide", "tide 1",
            "heap", "heap 1", "rule", "rule free", "gale", "gale 1", "gale 1 1", "seed", "seed 1", "law", "law load", "law load 1",
            "law load (", "law load (1", "law load 1+", "law load not", "law load 1<", "law load 1 and", "law load 1 or"};
        for (String text : cut) {
            e.fault(1, text + "^");
            e.fault(1, text + "  \n^");
        }
        e.fault(1, crofts(1) + "field^");
        e.fault(1, crofts(1) + "field a^");
        e.fault(1, crofts(1) + "field a 1^");
        e.fault(1, crofts(1) + "field a 1 1^");
        WeedStrand x = new WeedStrand();
        Due.feed(x, "heap 1;;;");
        e.is("the length is n", x.text(6), -1);
        e.is("the length is n", x.fault(1), 6);
    }

    private void numberTooMuch() {
        e.by(TERMS, "2 too much (at it): a number beyond what is said,");
        String[] beyond = {"stripe ^1000;", "croft a ^6 1 1;", "croft a 5 ^10 1;", "croft a 5 9 ^100;", "tide ^24;", "heap ^1000;",
            "gale ^101 0;", "gale 100 ^100;", "seed ^100000;", "law load ^10000;", "law worth 1+(2*^10000);"};
        for (String text : beyond) {
            e.fault(2, text);
        }
        e.fault(2, crofts(1) + "field a ^100 1;");
        e.fault(2, crofts(1) + "field a 1 ^10;");
        String[] wrapping = {"2147483648", "4294967296", "4294967297", "8589934592", "9223372036854775808",
            "18446744073709551616", "18446744073709551617", "9".repeat(600)};
        for (String number : wrapping) {
            e.fault(2, "heap ^" + number + ";");
            e.fault(2, "law load ^" + number + ";");
            e.fault(2, "tide 0;tide ^" + number + ";");
        }
    }

    private void lineTooMuch() {
        e.by(TERMS, "a ninth stripe and so on (at the word of the LINE),");
        e.fault(2, "stripe 1;".repeat(8) + " ^stripe");
        e.fault(2, "stripe 1;".repeat(8) + "^stripe 1000;");
        e.fault(2, crofts(4) + " ^croft");
        e.fault(2, crofts(4) + "^croft a 1 1 1;");
        e.fault(2, crofts(1) + "field a 1 1;".repeat(6) + " ^field");
        e.fault(2, crofts(1) + "field a 1 1;".repeat(6) + "^field b 1 1;");
        e.fault(2, tides(4) + " ^tide");
        e.fault(2, tides(4) + "^tide 24;");
    }

    private void ninthOpen() {
        e.by(TERMS, "a ninth '(' open,");
        value("((((((((7))))))))", 7);
        value("((((((((7))))))))+((((((((8))))))))", 15);
        value("((((((((7)+(8)))))+(((1))))))", 16);
        e.fault(2, "law load ((((((((^(7)))))))));");
        e.fault(2, "law load ((((((((7)+(^(8)))))))));");
        e.told(2, "law load ((((((((7))))))));law fork ((((((((7))))))));");
    }

    private void knots() {
        e.by(TERMS, "a 65th KNOT of all E (N, NAMES, signs but ( and ), not, and, or: one each).");
        e.is("a number", e.told(1, "law load 9;").count(4), 1);
        for (String name : NAMES) {
            e.is(name, e.told(1, "law load " + name + ";").count(4), 1);
        }
        for (String sign : SIGNS) {
            e.is("1" + sign + "1", e.told(1, "law load 1" + sign + "1;").count(4), 3);
        }
        e.is("not", e.told(1, "law load not 1;").count(4), 2);
        e.is("and", e.told(1, "law load 1 and 1;").count(4), 3);
        e.is("or", e.told(1, "law load 1 or 1;").count(4), 3);
        e.is("( and )", e.told(1, "law load (((1)));").count(4), 1);
        e.is("of all E", e.told(4, "law load 1;law fork 1+1;law ebb 1;law worth not 1;").count(4), 7);
        String full = "not 1" + "+1".repeat(31);
        e.is("64", e.told(1, "law load (" + full + ");").count(4), 64);
        for (String sign : SIGNS) {
            e.fault(2, "law load " + full + "^" + sign + "1;");
        }
        e.fault(2, "law load " + full + " ^and 1;");
        e.fault(2, "law load " + full + " ^or 1;");
        e.fault(2, "law load 1" + "+1".repeat(31) + "+^1;");
        e.fault(2, "law load 1" + "+1".repeat(31) + "+(^1);");
        e.fault(2, "law load 1" + "+1".repeat(31) + " and ^not 1;");
        for (String name : NAMES) {
            e.fault(2, "law load 1" + "+1".repeat(31) + "+^" + name + ";");
            e.fault(2, "law load " + full + ";law ebb ^" + name + ";");
        }
        e.fault(2, "law load 1;law fork 1;law ebb 1" + "+1".repeat(30) + ";law worth 1^+1;");
        WeedStrand x = e.told(1, "law load ((((((((" + "not ".repeat(63) + "1))))))));");
        e.is("64 with all that may be open", x.count(4), 64);
        value("((((((((" + "not ".repeat(63) + "1))))))))", 0);
        value("((((((((" + "not ".repeat(62) + "1))))))))", 1);
        for (int i = 0; i < 4; i++) {
            e.is("each text has knots of its own", Due.tell(x, "law load " + full + ";"), 1);
            e.is("its knots", x.count(4), 64);
            e.is("65 in a text", Due.tell(x, "law load " + full + "+1;"), -1);
        }
    }

    private void croftToldAlready() {
        e.by(TERMS, "3 told already: a CROFT's name (at W),");
        e.fault(3, "croft a 1 1 1;croft ^a 2 2 2;");
        e.fault(3, "croft abcdef 1 1 1;croft b 1 1 1;croft c 1 1 1;croft ^abcdef 1 1 1;");
        e.told(4, "croft a 1 1 1;croft aa 1 1 1;croft b 1 1 1;croft ab 1 1 1;");
    }

    private void tideToldAlready() {
        e.by(TERMS, "a TIDE at that HOUR (at it),");
        e.fault(3, "tide 5;tide ^5;");
        e.fault(3, "tide 5;tide 6;tide 7;tide ^0007;");
        e.told(2, "tide 2;tide 22;");
    }

    private void onceToldAlready() {
        e.by(TERMS, "heap, rule, gale, seed (at the word),");
        for (String one : ONCE) {
            e.fault(3, one + ";^" + one + ";");
            e.fault(3, one + ";^" + one.substring(0, 4));
            for (String other : ONCE) {
                if (!one.equals(other)) {
                    e.told(2, one + ";" + other + ";");
                    e.fault(3, one + ";" + other + ";^" + one + ";");
                }
            }
        }
        e.fault(3, "heap 0;^heap 0;");
    }

    private void lawToldAlready() {
        e.by(TERMS, "a law of its KIND (at KIND).");
        for (String one : KINDS) {
            e.fault(3, "law " + one + " 1;law ^" + one + " 1;");
            e.fault(3, "law " + one + " 1;law ^" + one);
            for (String other : KINDS) {
                if (!one.equals(other)) {
                    e.told(2, "law " + one + " 1;law " + other + " 1;");
                }
            }
        }
    }

    private void croftNotTold() {
        e.by(TERMS, "4 a CROFT that isn't told ahead (at W).");
        e.fault(4, "field ^a 1 1;");
        e.fault(4, "field ^a 1 1;croft a 1 1 1;");
        e.fault(4, "croft a 1 1 1;field ^aa 1 1;");
        e.fault(4, "croft aa 1 1 1;field ^a 1 1;");
        WeedStrand x = Due.strand("croft a 1 1 1;croft b 1 1 1;");
        e.is("b was told in the text ahead alone", Due.tell(x, "croft a 1 1 1;field b 1 1;"), -1);
        e.is("its fault", x.fault(0), 4);
        Due.tell(x, "croft a 1 1 1;croft b 1 1 1;$");
        e.is("b was told in a text with a fault alone", Due.tell(x, "field b 1 1;"), -1);
        e.is("its fault", x.fault(0), 4);
    }

    // ---- the first promises

    private void callsAtMost() {
        e.by("What it is", "An object is used for at most 512 calls after it has been made;");
        WeedStrand x = new WeedStrand();
        x.feed(0x63726f66, 0x74206120, 0x31203120, 0x313b2020, 0x20202020);
        e.is("call 2", x.text(20), 1);
        for (int call = 3; call < 512; call++) {
            e.is("call " + call, x.act(0, 1 + call % 3), true);
        }
        e.is("call 512", x.count(14), 20);
    }

    private void newObject() {
        e.by("Promise 1", "A TEXT without LINES; an empty TAPE.");
        WeedStrand x = new WeedStrand();
        for (int what = 0; what <= 14; what++) {
            e.is("count(" + what + ")", x.count(what), 0);
        }
        e.is("text(1)", x.text(1), -2);
        e.is("fault(0)", x.fault(0), 0);
        e.is("fault(1)", x.fault(1), -1);
        e.is("feed", x.feed(0, 0, 0, 0, 0), 20);
        e.is("another object has a tape of its own", new WeedStrand().feed(0, 0, 0, 0, 0), 20);
    }

    private void feed() {
        e.by("Promise 2", "Twenty bytes come behind the TAPE, four of each number, the highest first: how many it has;");
        WeedStrand x = new WeedStrand();
        int heap = 0x68656170;
        e.is("feed", x.feed(heap, 0x20313233, 0x3b202020, 0x20202020, 0x20202020), 20);
        e.is("feed", x.feed(0x73656564, 0x20202020, 0x20202020, 0x20202020, 0x2020343b), 40);
        e.is("text", x.text(40), 2);
        e.is("heap", x.count(7), 123);
        for (int place = 0; place < 20; place++) {
            int[] five = {0x20202020, 0x20202020, 0x20202020, 0x20202020, 0x20202020};
            five[place / 4] |= 0x80 << 24 - place % 4 * 8;
            WeedStrand y = new WeedStrand();
            y.feed(five[0], five[1], five[2], five[3], five[4]);
            e.is("a byte above 127", y.text(20), -1);
            e.is("its place", y.fault(1), place);
        }
        WeedStrand z = new WeedStrand();
        z.feed(-1, Integer.MIN_VALUE, Integer.MAX_VALUE, 0, 1);
        e.is("wide numbers are bytes, too", z.text(20), -1);
        e.is("their place", z.fault(1), 0);
    }

    private void feedFull() {
        e.by("Promise 2", "NONE, and none come, if it would have more than 700.");
        WeedStrand x = new WeedStrand();
        for (int i = 1; i <= 35; i++) {
            e.is("feed " + i, x.feed(0x20202020, 0x20202020, 0x20202020, 0x20202020, 0x20202020), 20 * i);
        }
        e.is("feed 36", x.feed(0x68656170, 0x20313233, 0x3b202020, 0x20202020, 0x20202020), -1);
        e.is("feed 37", x.feed(0x68656170, 0x20313233, 0x3b202020, 0x20202020, 0x20202020), -1);
        e.is("there are no 701", x.text(701), -2);
        e.is("there are 700", x.text(700), 0);
        e.is("it goes on", x.feed(0, 0, 0, 0, 0), 20);
    }

    private void text() {
        e.by("Promise 3", "The TAPE's first n bytes (it is empty then) are the TEXT");
        WeedStrand x = new WeedStrand();
        Due.feed(x, "heap 123;heap 4;");
        e.is("text(9)", x.text(9), 1);
        e.is("heap", x.count(7), 123);
        e.is("the tape is empty", x.text(1), -2);
        Due.feed(x, "heap 7;");
        e.is("text(0)", x.text(0), 0);
        e.is("no heap", x.count(7), 0);
        e.is("the tape is empty", x.text(1), -2);
        Due.feed(x, "stripes 1;");
        e.is("text(6) ends in a word", x.text(6), -1);
        e.is("more must come", x.fault(1), 6);
        Due.feed(x, "heap 1234;");
        e.is("text(8) ends in a number", x.text(8), -1);
        e.is("more must come", x.fault(1), 8);
        Due.feed(x, "law load 1<=1;");
        e.is("text(11) ends in a sign", x.text(11), -1);
        e.is("more must come", x.fault(1), 11);
        Due.feed(x, " ".repeat(693) + "heap 5;");
        e.is("text(700)", x.text(700), 1);
        e.is("heap", x.count(7), 5);
    }

    /** A strand in which all has changed since its text. */
    private static WeedStrand stirred() {
        WeedStrand x = Due.strand("stripe 90;stripe 80;croft a 2 1 0;croft b 1 0 0;field a 9 1;field b 9 2;tide 1;heap 30;"
            + "rule lots;gale 100 9;seed 5;law load 7;law worth 8;");
        x.act(1, 2);
        x.go(3);
        x.keep();
        x.see(1, 1, true);
        x.see(2, 2, true);
        x.known(1);
        x.rule(0);
        x.lot(0, 1);
        x.lend(0, 1);
        return x;
    }

    private void textBegins() {
        e.by("Promise 3", "(HOUR 0, ACTS 0, nothing SEEN, all KNOWN, no IMAGE, nothing to undo then): how many LINES;");
        WeedStrand x = stirred();
        e.is("lines", Due.tell(x, "stripe 4;stripe 5;croft c 3 2 1;croft d 1 1 1;field d 6 3;"), 5);
        int[] due = {2, 2, 1, 0, 0, 0, 9, 0, 0, 0, 0, 0, 0, 0, 0};
        for (int what = 0; what < due.length; what++) {
            e.is("count(" + what + ")", x.count(what), due[what]);
        }
        e.is("no image", x.back(), -1);
        e.is("nothing to undo", x.undo(), -1);
        e.is("a isn't told", x.named(1 << 25), -1);
        int[] croft = {3, 2, 1, 0, 0, 0, 4};
        for (int what = 0; what < croft.length; what++) {
            e.is("croft(0, " + what + ")", x.croft(0, what), croft[what]);
        }
        e.is("act of d", x.croft(1, 3), 0);
        e.is("field got", x.field(0, 3), 0);
        e.is("no law", x.law(0, 0, 0), ERROR);
        e.is("odds", x.odds(1, 0), 0);
        e.is("lot", x.stripe(1, 1), 1);
        x.see(1, 0, true);
        x.see(1, 0, true);
        e.is("all known", x.count(13), 2);
        WeedStrand y = stirred();
        y.see(1, 999, true);
        y.see(1, 0, false);
        e.is("text(0)", y.text(0), 0);
        for (int what = 0; what <= 14; what++) {
            e.is("count(" + what + ")", y.count(what), 0);
        }
        Due.tell(y, "croft a 1 1 1;");
        e.is("nothing seen", y.came(0), 0xffffff);
        WeedStrand z = stirred();
        Due.tell(z, "stripe 1;gale 1 5;");
        z.go(1);
        e.lies("by its own seed", z, 6);
    }

    private static final String MUCH = "stripe 999;".repeat(8) + "croft a 5 9 9;croft b 5 9 9;croft c 5 9 9;croft d 5 9 9;"
        + "field a 99 9;".repeat(6) + "tide 0;tide 1;tide 2;tide 3;heap 999;rule saved;gale 100 99;seed 99999;"
        + "law load (1<2)*9;law fork 9;law ebb 9;law worth 1<2;";
    private static final String[] WITH_FAULTS = {MUCH + "$", MUCH + "law", MUCH.substring(0, MUCH.length() - 1),
        MUCH.substring(0, MUCH.length() - 2) + "(((((1<2", MUCH.substring(0, MUCH.length() - 2) + "not not 1+", "law load not ((1<2"};

    private void textsBehindTexts() {
        e.by("Promise 3", "first n bytes (it is empty then) are the TEXT (HOUR 0, ACTS 0, nothing SEEN,");
        for (String faulty : WITH_FAULTS) {
            WeedStrand x = new WeedStrand();
            e.is("much", Due.tell(x, MUCH), 30);
            e.is("a fault", Due.tell(x, faulty), -1);
            e.is("nothing", Due.tell(x, ""), 0);
            for (int what = 0; what <= 14; what++) {
                e.is("count(" + what + ") of nothing", x.count(what), 0);
            }
            e.is("odds of nothing", x.odds(1, 0), 0);
            e.is("much", Due.tell(x, MUCH), 30);
            e.is("much once more", Due.tell(x, MUCH), 30);
            e.is("a fault", Due.tell(x, faulty), -1);
            e.is("little", Due.tell(x, "stripe 4;croft c 3 2 0;field c 7 1;gale 0 9;"), 4);
            int[] due = {1, 1, 1, 0, 0, 0, 4, 0, 0, 0, 0, 0, 0, 0, 0};
            for (int what = 0; what < due.length; what++) {
                e.is("count(" + what + ") of little", x.count(what), due[what]);
            }
            for (int what = 0; what < 4; what++) {
                e.is("no law " + what, x.law(what, 0, 0), ERROR);
            }
            e.is("a isn't told", x.named(1 << 25), -1);
            e.is("c is", x.named(3 << 25), 0);
            e.is("no gale, no tide, free", x.go(1), 1);
            e.lies("then", x, 0);
            e.is("gain", x.croft(0, 4), 28);
            e.is("one law", Due.tell(x, "stripe 9;law ebb 1<2 and 2<3;"), 2);
            e.is("no odds", x.odds(1, 0), 0);
            e.is("its knots", x.count(4), 7);
            e.is("its value", x.law(2, 0, 0), 1);
            e.is("a gale without a seed", Due.tell(x, "stripe 9;gale 1 1;"), 2);
            x.go(1);
            e.lies("by the number 0", x, 10);
        }
    }

    private void textWithFault() {
        e.by("Promise 3", "NONE with a FAULT, all else stays;");
        WeedStrand x = stirred();
        WeedStrand y = stirred();
        e.is("text", Due.tell(x, "stripe 1;croft z 0 0 0;field z 0 0;tide 9;heap 1;rule saved;gale 1 1;seed 1;law load 1;$"), -1);
        e.is("the tape is empty", x.text(1), -2);
        for (int what = 0; what <= 14; what++) {
            e.is("count(" + what + ")", x.count(what), y.count(what));
        }
        for (int c = 0; c < 2; c++) {
            for (int what = 0; what < 7; what++) {
                e.is("croft(" + c + ", " + what + ")", x.croft(c, what), y.croft(c, what));
            }
            e.is("lies", x.stripe(c, 0), y.stripe(c, 0));
            e.is("lot", x.stripe(c, 1), y.stripe(c, 1));
            e.is("worth", x.field(c, 4), y.field(c, 4));
            e.is("came", x.came(c), y.came(c));
        }
        e.is("load", x.law(0, 0, 0), 7);
        e.is("named a", x.named(1 << 25), 0);
        e.is("named z", x.named(26 << 25), -1);
        e.is("undo", x.undo(), 2);
        e.is("undo", x.undo(), 1);
        e.is("undo", x.undo(), 0);
        y.undo();
        y.undo();
        y.undo();
        e.is("go", x.go(5), 8);
        y.go(5);
        e.is("the same gales", x.count(6), y.count(6));
        e.is("the same tides", x.count(8), y.count(8));
        e.is("the image", x.back(), 3);
    }

    private void textOfTooMany() {
        e.by("Promise 3", "-2, and the TAPE stays: there are not so many, n is below 0.");
        WeedStrand x = new WeedStrand();
        e.is("text(1) of an empty tape", x.text(1), -2);
        e.is("text(-1) of an empty tape", x.text(-1), -2);
        Due.feed(x, "heap 5;");
        e.is("text(21)", x.text(21), -2);
        e.is("text(-1)", x.text(-1), -2);
        for (int n : Edges.FAR) {
            e.is("text(" + n + ")", x.text(n), -2);
        }
        e.is("no text", x.count(7), 0);
        e.is("the tape stays", x.text(20), 1);
        e.is("heap", x.count(7), 5);
    }

    private void faults() {
        e.by("Promise 4", "Of the latest text() that was not -2, what 0: its FAULT (0), 1: its place (NONE without).");
        WeedStrand x = new WeedStrand();
        String[] texts = {"heap 1", "heap 1000;", "heap 1;heap 1;", "field a 1 1;"};
        int[] places = {6, 5, 7, 6};
        for (int i = 0; i < texts.length; i++) {
            Due.tell(x, texts[i]);
            e.is("fault(0) of " + texts[i], x.fault(0), i + 1);
            e.is("fault(1) of " + texts[i], x.fault(1), places[i]);
            x.text(-1);
            x.text(1);
            e.is("fault(0) behind -2", x.fault(0), i + 1);
            e.is("fault(1) behind -2", x.fault(1), places[i]);
            x.go(1);
            x.keep();
            x.back();
            e.is("fault(1) behind an image", x.fault(1), places[i]);
        }
        Due.tell(x, "heap 1;");
        e.is("fault(0) without", x.fault(0), 0);
        e.is("fault(1) without", x.fault(1), -1);
        x.text(5);
        e.is("fault(0) behind -2", x.fault(0), 0);
        Due.tell(x, "$");
        e.is("fault(1) at 0", x.fault(1), 0);
        x.text(0);
        e.is("fault(1) of text(0)", x.fault(1), -1);
    }

    private void faultsOfOtherWhat() {
        e.by("Promise 4", "NONE for another what.");
        WeedStrand x = new WeedStrand();
        Due.tell(x, "heap 1000;");
        e.is("fault(-1)", x.fault(-1), -1);
        e.is("fault(2)", x.fault(2), -1);
        for (int what : Edges.FAR) {
            e.is("fault(" + what + ")", x.fault(what), -1);
        }
    }

    private static int letters(String word) {
        int letters = 0;
        for (int i = 0; i < 6; i++) {
            letters = letters * 32 + (i < word.length() ? word.charAt(i) - 'a' + 1 : 0);
        }
        return letters;
    }

    private void named() {
        e.by("Promise 5", "The number of a CROFT by the letters, 5 bits each (a is 1; the first one highest of six, 0 behind the last one);");
        WeedStrand x = Due.strand("croft ba 1 1 1;croft a 1 1 1;croft zzzzzz 1 1 1;croft abcdef 1 1 1;");
        e.is("ba", x.named(2 << 25 | 1 << 20), 0);
        e.is("a", x.named(1 << 25), 1);
        e.is("zzzzzz", x.named(letters("zzzzzz")), 2);
        e.is("abcdef", x.named(1 << 25 | 2 << 20 | 3 << 15 | 4 << 10 | 5 << 5 | 6), 3);
    }

    private void namedNone() {
        e.by("Promise 5", "NONE: there is none such.");
        WeedStrand x = Due.strand("croft ba 1 1 1;croft a 1 1 1;croft zzzzzz 1 1 1;croft abcdef 1 1 1;");
        String[] others = {"", "b", "ab", "aa", "zzzzz", "abcde", "abcdeg", "bbcdef"};
        for (String word : others) {
            e.is(word, x.named(letters(word)), -1);
        }
        e.is("a at the low end", x.named(1), -1);
        e.is("a behind a 0", x.named(1 << 20), -1);
        e.is("a with a bit above", x.named(1 << 30 | 1 << 25), -1);
        e.is("a with the sign", x.named(Integer.MIN_VALUE | 1 << 25), -1);
        e.is("a with a low bit", x.named(1 << 25 | 1), -1);
        for (int far : Edges.FAR) {
            e.is("named(" + far + ")", x.named(far), -1);
        }
        e.is("none told", new WeedStrand().named(0), -1);
    }
}
