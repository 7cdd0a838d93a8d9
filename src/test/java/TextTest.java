/** Promises 1 to 5: a new object, the tape, the text and its faults, names. */
final class TextTest {
    private static final Due DUE = new Due("TextTest");

    public static void main(String[] args) {
        newObject();
        tape();
        lines();
        unfit();
        tooMuch();
        toldAlready();
        notTold();
        firstFault();
        afterFault();
        names();
        binding();
        errors();
        cut();
        again();
        DUE.end();
    }

    private static void newObject() {
        WeedStrand x = new WeedStrand();
        for (int what = 0; what <= 14; what++) {
            DUE.is("new count(" + what + ")", x.count(what), 0);
        }
        DUE.is("new count(15)", x.count(15), -1);
        DUE.is("new count(-1)", x.count(-1), -1);
        DUE.is("new fault(0)", x.fault(0), 0);
        DUE.is("new fault(1)", x.fault(1), -1);
        DUE.is("new fault(2)", x.fault(2), -1);
        DUE.is("new fault(-1)", x.fault(-1), -1);
        DUE.is("new named", x.named(0), -1);
        DUE.is("new text(0)", x.text(0), 0);
    }

    private static void tape() {
        WeedStrand x = new WeedStrand();
        DUE.is("text(-1)", x.text(-1), -2);
        DUE.is("text(1) of an empty tape", x.text(1), -2);
        for (int i = 1; i <= 35; i++) {
            DUE.is("feed " + i, x.feed(0x20202020, 0x20202020, 0x20202020, 0x20202020, 0x20202020), 20 * i);
        }
        DUE.is("feed 36", x.feed(0, 0, 0, 0, 0), -1);
        DUE.is("text(701)", x.text(701), -2);
        DUE.is("the tape stays", x.feed(0, 0, 0, 0, 0), -1);
        DUE.is("text(700)", x.text(700), 0);
        DUE.is("an empty tape", x.feed(0, 0, 0, 0, 0), 20);
        DUE.is("a zero byte", x.text(1), -1);
        DUE.is("its fault", x.fault(0), 1);
        DUE.is("its place", x.fault(1), 0);
        DUE.is("empty behind a fault", x.feed(0x68656170, 0x20373B30, -1, -1, -1), 20);
        DUE.is("the highest first", x.text(7), 1);
        DUE.is("heap", x.count(7), 7);
        DUE.is("empty behind n bytes", x.text(1), -2);
        DUE.is("fault of the latest but -2", x.fault(0), 0);
        x.feed(0x68656170, 0x2037F83B, 0, 0, 0);
        DUE.is("a high byte", x.text(8), -1);
        DUE.is("its place", x.fault(1), 6);
        DUE.is("text(-3)", x.text(-3), -2);
        DUE.is("-2 leaves the fault", x.fault(1), 6);
    }

    private static void told(String text, int lines) {
        WeedStrand x = new WeedStrand();
        DUE.is("text " + text, Due.tell(x, text), lines);
        DUE.is("fault of " + text, x.fault(0), lines >= 0 ? 0 : x.fault(0));
    }

    private static void fault(String text, int kind, int place) {
        WeedStrand x = new WeedStrand();
        DUE.is("text " + text, Due.tell(x, text), -1);
        DUE.is("fault of " + text, x.fault(0), kind);
        DUE.is("place in " + text, x.fault(1), place);
    }

    private static void lines() {
        told("", 0);
        told(" \n ", 0);
        told("stripe1;stripe\n2 ;", 2);
        told("stripe 000000000000000000000999;", 1);
        told("croft abcdef 5 9 99;field abcdef 99 9;", 2);
        told("tide 0;tide 23;tide 1;tide 2;heap 999;rule free;gale 100 99;seed 99999;", 8);
        told("rule lots;", 1);
        told("rule saved;", 1);
        told("law load 9999;law fork((lies));law ebb not not not 1 and not 2 or not 3;law worth 1<(2<3);", 4);
        told("law load 1+2-3*4/5<=6 and 7<>8 or 9>=0;", 1);
        told("law load ((((((((1))))))))+((((((((1))))))));", 1);
        told("law load " + "not ".repeat(63) + "1;", 1);
        told("law load lies+carts+hill+hour+got+wants+sort;", 1);
        told("croft stripex 1 1 1;".replace("stripex", "a") + "croft b 1 1 1;croft c 1 1 1;croft d 1 1 1;", 4);
        told("stripe 1;".repeat(8), 8);
        told("croft a 1 1 1;" + "field a 1 1;".repeat(6), 7);
        told("croft ands 1 1 1;croft nota 1 1 1;croft o 1 1 1;", 3);
    }

    private static void unfit() {
        fault("stripe 1", 1, 8);
        fault("stripe 1  ", 1, 10);
        fault("stripe", 1, 6);
        fault(";", 1, 0);
        fault("1;", 1, 0);
        fault("weed 1;", 1, 0);
        fault("Stripe 1;", 1, 0);
        fault("stripes 1;", 1, 0);
        fault("stripe\t1;", 1, 6);
        fault("stripe x;", 1, 7);
        fault("stripe -1;", 1, 7);
        fault("stripe 1 2;", 1, 9);
        fault("croft abcdefg 1 1 1;", 1, 6);
        fault("croft free 1 1 1;", 1, 6);
        fault("croft not 1 1 1;", 1, 6);
        fault("croft 1 1 1 1;", 1, 6);
        fault("croft a 1 1;", 1, 11);
        fault("field hill 1 1;", 1, 6);
        fault("field abcdefg 1 1;", 1, 6);
        fault("rule load;", 1, 5);
        fault("rule fair;", 1, 5);
        fault("rule 1;", 1, 5);
        fault("law rule 1;", 1, 4);
        fault("law x 1;", 1, 4);
        fault("law ;", 1, 4);
        fault("law load;", 1, 8);
        fault("law load x;", 1, 9);
        fault("law load ();", 1, 10);
        fault("law load 1);", 1, 10);
        fault("law load (1;", 1, 11);
        fault("law load (1", 1, 11);
        fault("law load 1<2<3;", 1, 12);
        fault("law load 1<2 and 3=4 = 5;", 1, 21);
        fault("law load (1<2 or 3<4)<5>6;", 1, 23);
        fault("law load 1< =2;", 1, 12);
        fault("law load 1=<2;", 1, 11);
        fault("law load 1=>2;", 1, 11);
        fault("law load 1<>=2;", 1, 12);
        fault("law load 1> <2;", 1, 12);
        fault("law load 1><2;", 1, 11);
        fault("law load 1+not 2;", 1, 11);
        fault("law load 1<not 2;", 1, 11);
        fault("law load 1 not 2;", 1, 11);
        fault("law load not;", 1, 12);
        fault("law load -1;", 1, 9);
        fault("law load 1 2;", 1, 11);
        fault("law load 1 load;", 1, 11);
        fault("law load 1+;", 1, 11);
        fault("law load 1 and or 2;", 1, 15);
        fault("law load 1,2;", 1, 10);
    }

    private static void tooMuch() {
        fault("stripe 1000;", 2, 7);
        fault("stripe 99999999999999999999999;", 2, 7);
        fault("stripe 4294967296;", 2, 7);
        fault("stripe 1;".repeat(8) + "stripe x", 2, 72);
        fault("croft a 6 0 0;", 2, 8);
        fault("croft a 5 10 0;", 2, 10);
        fault("croft a 5 9 100;", 2, 12);
        fault("croft a 1 1 1;croft b 1 1 1;croft c 1 1 1;croft d 1 1 1;croft a 1 1 1;", 2, 56);
        fault("croft a 1 1 1;field a 100 0;", 2, 22);
        fault("croft a 1 1 1;field a 99 10;", 2, 25);
        fault("croft a 1 1 1;" + "field a 1 1;".repeat(7), 2, 86);
        fault("tide 24;", 2, 5);
        fault("tide 1;tide 2;tide 3;tide 4;tide 1;", 2, 28);
        fault("heap 1000;", 2, 5);
        fault("gale 101 0;", 2, 5);
        fault("gale 100 100;", 2, 9);
        fault("seed 100000;", 2, 5);
        fault("law load 10000;", 2, 9);
        fault("law load (((((((((1)))))))));", 2, 17);
        fault("law load " + "not ".repeat(64) + "1;", 2, 9 + 256);
        fault("law load 1" + "+1".repeat(32) + ";", 2, 9 + 64);
        fault("law load not 1" + "+1".repeat(32) + ";", 2, 9 + 67);
        fault("law load " + "not ".repeat(65) + "1;", 2, 9 + 256);
        fault("law load " + "not ".repeat(63) + "(1);law ebb lies;", 2, 9 + 252 + 4 + 8);
        fault("law load 1" + "+1".repeat(31) + "+1;", 2, 9 + 64);
        fault("law load 1" + "+1".repeat(30) + ";law fork 1;law ebb not not 1;", 2, 9 + 61 + 1 + 11 + 16);
        fault("law load 1" + "+1".repeat(30) + ";law fork 1;law ebb 1;law worth 1;law", 1, 9 + 61 + 1 + 11 + 10 + 12 + 3);
    }

    private static void toldAlready() {
        fault("croft a 1 1 1;croft a 1 1 1;", 3, 20);
        fault("tide 5;tide 05;", 3, 12);
        fault("heap 1;heap 1;", 3, 7);
        fault("rule free;rule", 3, 10);
        fault("gale 0 0;gale 0 0;", 3, 9);
        fault("seed 0;seed 0;", 3, 7);
        fault("law ebb 1;law ebb 1;", 3, 14);
    }

    private static void notTold() {
        fault("field a 1 1;", 4, 6);
        fault("field a 1 1;croft a 1 1 1;", 4, 6);
        fault("croft a 1 1 1;field aa 1 1;", 4, 20);
    }

    private static void firstFault() {
        fault("stripe 1000 $", 2, 7);
        fault("stripe 1 $ 1000", 1, 9);
        fault("field a 1000 1;", 4, 6);
        fault("heap 1;heap 1000;", 3, 7);
    }

    private static void afterFault() {
        WeedStrand x = Due.strand("stripe 5;croft a 1 1 1;heap 3;");
        x.go(2);
        x.keep();
        x.see(1, 1, true);
        x.act(0, 2);
        DUE.is("faulty", Due.tell(x, "stripe 7;stripe 8;rule lots;croft"), -1);
        DUE.is("stripes stay", x.count(0), 1);
        DUE.is("it lies as it did", x.stripe(0, 0), 5);
        DUE.is("the hour stays", x.count(5), 2);
        DUE.is("the rule stays", x.count(11), 0);
        DUE.is("seen stays", x.count(12), 1);
        DUE.is("what can be undone stays", x.count(14), 1);
        DUE.is("the image stays", x.back(), 2);
        DUE.is("without a fault", Due.tell(x, "stripe 7;"), 1);
        DUE.is("hour 0", x.count(5), 0);
        DUE.is("nothing seen", x.count(12), 0);
        DUE.is("nothing to undo", x.undo(), -1);
        DUE.is("no image", x.back(), -1);
        DUE.is("no heap", x.count(7), 0);
        DUE.is("no crofts", x.count(1), 0);
        x.see(3, 3, true);
        x.known(0);
        Due.tell(x, "");
        x.see(3, 3, true);
        DUE.is("all known", x.count(13), 1);
    }

    private static int letters(String word) {
        int letters = 0;
        for (int i = 0; i < 6; i++) {
            letters = letters << 5 | (i < word.length() ? word.charAt(i) - 'a' + 1 : 0);
        }
        return letters;
    }

    private static void names() {
        WeedStrand x = Due.strand("croft ab 1 1 1;croft a 1 1 1;croft zzzzzz 1 1 1;croft abcdef 1 1 1;");
        DUE.is("ab", x.named(letters("ab")), 0);
        DUE.is("a", x.named(letters("a")), 1);
        DUE.is("zzzzzz", x.named(letters("zzzzzz")), 2);
        DUE.is("abcdef", x.named(letters("abcdef")), 3);
        DUE.is("b", x.named(letters("b")), -1);
        DUE.is("none", x.named(0), -1);
        DUE.is("-1", x.named(-1), -1);
        DUE.is("beyond six letters", x.named(letters("a") | 1 << 30), -1);
        DUE.is("lowest letter", x.named(1), -1);
    }

    private static void law(String e, long value) {
        WeedStrand x = Due.strand("stripe 30;croft a 3 2 0;law load " + e + ";");
        DUE.is("law " + e, x.law(0, 0, 0), value);
    }

    private static void binding() {
        law("1+2*3", 7);
        law("(1+2)*3", 9);
        law("10-3-2", 5);
        law("100/10/5", 2);
        law("2*7/3", 4);
        law("7/3*2", 4);
        law("(2-9)/2", -3);
        law("1-8/3", -1);
        law("not 1<2", 0);
        law("not 3", 0);
        law("not 0", 1);
        law("not not 5", 1);
        law("(not 1)<2", 1);
        law("1 or 0 and 0", 1);
        law("(1 or 0) and 0", 0);
        law("0 and 0 or 1", 1);
        law("5 and 7", 1);
        law("0 or 9", 1);
        law("not 0 and 0", 0);
        law("not (0 and 0)", 1);
        law("1+1<2+1", 1);
        law("1<2 and 2<3", 1);
        law("2<2", 0);
        law("2<=2", 1);
        law("2=2", 1);
        law("2<>2", 0);
        law("2>=2", 1);
        law("2>2", 0);
        law("3<=2", 0);
        law("3<>2", 1);
        law("1>=2", 0);
        law("3>2", 1);
        law("1 or 1 and 0 or 0", 1);
        law("lies*100+carts*10+hill", 3032);
        law("hour+got+wants+sort", 0);
        law("0-5", -5);
        law("1+(not 2)", 1);
        law("1+(not 0)", 2);
        law("(1<2)+(3<4)", 2);
        law("(1<2)<(3<4)", 0);
        law("3=(1+2)", 1);
        law("4=5", 0);
        law("0 or 0", 0);
        law("1-2*3-4", -9);
        law("((2-1)*(3+4)-5)*(6-(7-8))", 14);
    }

    private static void errors() {
        long error = Long.MIN_VALUE;
        law("1/0", error);
        law("1/(hill-2)", error);
        law("1 or 1/0", error);
        law("0 and 1/0", error);
        law("1000*1000*1000*1000", 1000000000000L);
        law("1000*1000*1000*1000+1", error);
        law("1000*1000*1000*1000+1-1", error);
        law("0-1000*1000*1000*1000", -1000000000000L);
        law("0-1000*1000*1000*1000-1", error);
        law("1000*1000*1000*1000*(1000*1000*1000*1000)", error);
        law("9999*9999*9999*(9999*9999*9999)", error);
        law("(0-8192*8192*8192)*8192*8192", error);
        law("8192*8192*8192*(8192*8192*8192)*0", error);
        law("1000*1000*1000*(1000*1000*1000)*(1000*1000)", error);
        law("0/5", 0);
        law("0*(0-3)", 0);
    }

    /** A text that ends within a word, a number or a sign that goes on behind it on the tape. */
    private static void cut() {
        cut("stripes 1;", 6, 1, 6);
        cut("stripe 9999;", 10, 1, 10);
        cut("law load 1<=2;", 11, 1, 11);
        cut("law load 1<>2;", 11, 1, 11);
        cut("heap 1; stripe 1;", 8, 0, -1);
        cut("heap 12;", 7, 1, 7);
    }

    private static void cut(String tape, int n, int kind, int place) {
        WeedStrand x = new WeedStrand();
        Due.feed(x, tape);
        DUE.is("text(" + n + ") of " + tape, x.text(n), kind == 0 ? 1 : -1);
        DUE.is("fault of " + tape, x.fault(0), kind);
        DUE.is("place in " + tape, x.fault(1), place);
    }

    private static final String RICH = "stripe 90;stripe 80;stripe 70;stripe 60;stripe 50;stripe 40;stripe 30;stripe 20;"
        + "croft a 1 2 0;croft b 2 3 0;croft c 3 4 1;croft d 4 5 2;field a 10 1;field b 20 2;field c 30 3;field d 40 4;"
        + "field a 50 5;field b 60 6;tide 0;tide 2;tide 4;tide 6;heap 70;rule saved;gale 90 8;seed 777;"
        + "law load lies/9+1;law fork 7+lies/9;law ebb lies/3;law worth wants-got/2+sort;";
    private static final String[] LATER = {"", "stripe 9;croft a 1 0 0;field a 9 0;heap 1;tide 1;",
        "stripe 9;croft z 1 0 0;croft y 1 0 0;field y 9 0;rule lots;gale 50 5;", "gale 60 7;stripe 1;seed 5;", "law ebb 1;heap 2;"};

    /** What was told and done ahead is nothing to a later text. */
    private static void again() {
        for (String later : LATER) {
            WeedStrand x = Due.strand(RICH);
            Due.tell(x, RICH);
            x.go(9);
            x.act(1, 2);
            x.act(2, 3);
            x.lend(3, 1);
            x.lot(0, 3);
            x.see(1, 1, true);
            x.known(0);
            x.keep();
            Due.tell(x, "croft a 1 1 1;field a 1 1;law load ((1+2);");
            Due.tell(x, later);
            WeedStrand fresh = Due.strand(later);
            same(x, fresh, later);
            DUE.is("go", x.go(30), fresh.go(30));
            same(x, fresh, later);
            DUE.is("came", x.came(0), fresh.came(0));
            DUE.is("odds", x.odds(1, 0), fresh.odds(1, 0));
            DUE.is("undo", x.undo(), -1);
            DUE.is("back", x.back(), -1);
            DUE.is("lines of a text twice told", Due.tell(x, RICH), 30);
            WeedStrand rich = Due.strand(RICH);
            same(x, rich, RICH);
            DUE.is("go", x.go(30), rich.go(30));
            same(x, rich, RICH);
        }
    }

    private static void same(WeedStrand x, WeedStrand y, String text) {
        for (int what = 0; what < 15; what++) {
            DUE.is("count(" + what + ") of " + text, x.count(what), y.count(what));
        }
        for (int s = 0; s < y.count(0); s++) {
            DUE.is("lies " + s + " of " + text, x.stripe(s, 0), y.stripe(s, 0));
            DUE.is("lot " + s + " of " + text, x.stripe(s, 1), y.stripe(s, 1));
            DUE.is("ebb " + s + " of " + text, x.law(2, s, 0), y.law(2, s, 0));
        }
        for (int c = 0; c < 5; c++) {
            for (int what = 0; what < 7; what++) {
                DUE.is("croft(" + c + ", " + what + ") of " + text, x.croft(c, what), y.croft(c, what));
            }
            DUE.is("load " + c + " of " + text, x.law(0, c, 0), y.law(0, c, 0));
            DUE.is("fork " + c + " of " + text, x.law(1, c, 0), y.law(1, c, 0));
        }
        for (int f = 0; f < 6; f++) {
            for (int what = 0; what < 5; what++) {
                DUE.is("field(" + f + ", " + what + ") of " + text, x.field(f, what), y.field(f, what));
            }
        }
    }
}
