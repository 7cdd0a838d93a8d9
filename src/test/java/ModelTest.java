import java.util.ArrayList;
import java.util.List;
import java.util.Random;

/** Random texts and calls, each answer of the class held against that of WeedModel. The seeds are fixed. */
final class ModelTest {
    private static final int RUNS = 600;
    private static final int CALLS = 480;
    private static final String[] CROFTS = {"a", "bo", "cat", "dunlin"};
    private static final String[] JUNK = {"stripe", "croft", "field", "tide", "heap", "rule", "gale", "seed", "law", "free",
        "lots", "saved", "load", "fork", "ebb", "worth", "lies", "carts", "hill", "hour", "got", "wants", "sort", "not",
        "and", "or", ";", "(", ")", "<", "<=", "=", "<>", ">=", ">", "+", "-", "*", "/", "0", "1", "7", "24", "99", "100",
        "999", "1000", "9999", "10000", "a", "bo", "zebras", "zebrass", "A", "!", "\n", "  ", "\u00e9"};
    private static final String[] SIGNS = {" < ", "<=", "=", "<>", ">=", ">", "+", "-", "*", "/", " and ", " or "};
    private static int wrong;
    private static long asked;

    public static void main(String[] args) {
        for (int run = 0; run < RUNS && wrong < 20; run++) {
            new ModelTest(run).play();
        }
        System.out.println("ModelTest: " + (asked - wrong) + " of " + asked + " answers are as due");
        if (wrong > 0) {
            System.exit(1);
        }
    }

    private final int run;
    private final Random random;
    private final WeedStrand x = new WeedStrand();
    private final WeedModel y = new WeedModel();
    private final List<String> told = new ArrayList<>();
    private int calls;

    private ModelTest(int run) {
        this.run = run;
        random = new Random(run);
    }

    private int up(int most) {
        return random.nextInt(most + 1);
    }

    /** Mostly 0 .. most, at times a little beyond, seldom far. */
    private int about(int most) {
        int kind = up(30);
        if (kind == 0) {
            return -1 - up(2);
        }
        if (kind == 1) {
            return most + 1 + up(1);
        }
        if (kind == 2 && up(9) == 0) {
            return random.nextBoolean() ? Integer.MAX_VALUE - up(1) : Integer.MIN_VALUE + up(1);
        }
        return up(most);
    }

    private int hours(int most) {
        return up(4) == 0 ? about(most) : 1 + up(Math.min(most, 12) - 1);
    }

    private String expression(int depth) {
        int kind = up(depth > 3 ? 1 : 5);
        if (kind == 0) {
            return "" + (up(3) == 0 ? up(9999) : up(12));
        }
        if (kind == 1) {
            return JUNK[16 + up(6)];
        }
        if (kind == 2) {
            return "(" + expression(depth + 1) + ")";
        }
        if (kind == 3) {
            return "(not " + expression(depth + 1) + ")";
        }
        return expression(depth + 1) + SIGNS[up(SIGNS.length - 1)] + expression(depth + 1);
    }

    private String text() {
        StringBuilder text = new StringBuilder();
        int stripes = up(8);
        for (int i = 0; i < stripes; i++) {
            text.append("stripe ").append(up(2) == 0 ? up(999) : up(80)).append(";");
        }
        int crofts = up(5) == 0 ? 0 : up(4);
        for (int i = 0; i < crofts; i++) {
            int come = up(3) == 0 ? 0 : up(3) == 0 ? up(99) : up(8);
            text.append("croft ").append(CROFTS[i]).append(' ').append(up(5)).append(' ').append(up(9)).append(' ').append(come)
                .append(";");
        }
        int fields = crofts == 0 ? 0 : up(6);
        for (int i = 0; i < fields; i++) {
            text.append("field ").append(CROFTS[up(crofts - 1)]).append(' ').append(up(99)).append(' ').append(up(9)).append(";");
        }
        int tide = up(8);
        for (int i = up(4); i > 0; i--) {
            text.append("tide ").append(tide).append(";");
            tide += 1 + up(3);
        }
        String[] more = {"heap " + up(99) + ";", "rule " + JUNK[9 + up(2)] + ";", "gale " + up(100) + " " + up(99) + ";",
            "seed " + up(99999) + ";", "law load " + expression(0) + ";", "law fork " + expression(0) + ";",
            "law ebb " + expression(0) + ";", "law worth " + expression(0) + ";"};
        for (String line : more) {
            if (random.nextBoolean()) {
                text.append(line);
            }
        }
        return text.toString();
    }

    private String spoiled(String text) {
        StringBuilder spoiled = new StringBuilder(text);
        for (int i = up(2); i >= 0; i--) {
            int at = up(spoiled.length());
            if (up(3) == 0 && at < spoiled.length()) {
                spoiled.deleteCharAt(at);
            } else {
                spoiled.insert(at, (up(1) == 0 ? " " : "") + JUNK[up(JUNK.length - 1)]);
            }
        }
        return spoiled.toString();
    }

    private String junk() {
        StringBuilder junk = new StringBuilder(random.nextBoolean() ? "law load " : "");
        for (int i = up(30); i > 0; i--) {
            junk.append(JUNK[up(JUNK.length - 1)]).append(up(2) == 0 ? "" : " ");
        }
        return junk.toString();
    }

    private void same(String call, long got, long want) {
        asked++;
        calls++;
        told.add(call + " -> " + got);
        if (got != want) {
            wrong++;
            System.out.println("run " + run + ": " + call + " answered " + got + ", the model " + want);
            System.out.println("  behind " + told.subList(Math.max(0, told.size() - 40), told.size()));
        }
    }

    private void same(String call, boolean got, boolean want) {
        same(call, got ? 1 : 0, want ? 1 : 0);
    }

    private void tell(String text) {
        told.add("[" + text + "]");
        for (int i = 0; i < text.length(); i += 20) {
            int[] four = new int[5];
            for (int k = 0; k < 20; k++) {
                int sign = i + k < text.length() ? text.charAt(i + k) : ' ';
                four[k / 4] = four[k / 4] << 8 | sign;
            }
            same("feed", x.feed(four[0], four[1], four[2], four[3], four[4]), y.feed(four[0], four[1], four[2], four[3], four[4]));
        }
        int n = up(9) == 0 ? text.length() - up(2) : text.length();
        same("text " + n, x.text(n), y.text(n));
        same("fault 0", x.fault(0), y.fault(0));
        same("fault 1", x.fault(1), y.fault(1));
    }

    private void play() {
        tell(text());
        while (calls < CALLS) {
            int kind = up(60);
            if (kind == 0) {
                tell(text());
            } else if (kind == 1) {
                tell(spoiled(text()));
            } else if (kind == 2) {
                tell(junk());
            } else if (kind < 20) {
                look();
            } else if (kind < 38) {
                change();
            } else if (kind < 54) {
                ask();
            } else {
                sight();
            }
        }
    }

    private void look() {
        int a = about(7);
        int b = about(6);
        int c = up(4) == 0 ? -3 : about(7);
        switch (up(8)) {
            case 0 -> same("stripe " + a + " " + b, stripe(a, b, true), stripe(a, b, false));
            case 1 -> same("croft " + a % 5 + " " + b, x.croft(a % 5, b), y.croft(a % 5, b));
            case 2 -> same("field " + a + " " + b, x.field(a, b), y.field(a, b));
            case 3 -> same("source " + a % 5 + " " + b % 3, x.source(a % 5, b % 3), y.source(a % 5, b % 3));
            case 4, 5 -> same("law " + b % 5 + " " + a + " " + c, x.law(b % 5, a, c), y.law(b % 5, a, c));
            case 6 -> same("named " + b, x.named(letters(b)), y.named(letters(b)));
            default -> {
                int what = about(14);
                same("count " + what, x.count(what), y.count(what));
            }
        }
    }

    private static int letters(int b) {
        return b < 0 ? b : b == 0 ? 1 << 25 : b == 1 ? 2 << 25 | 15 << 20 : b == 2 ? 3 << 25 | 1 << 20 | 20 << 15 : b << 25;
    }

    private long stripe(int a, int b, boolean real) {
        try {
            return real ? x.stripe(a, b) : y.stripe(a, b);
        } catch (IndexOutOfBoundsException e) {
            return -100;
        } catch (java.util.NoSuchElementException e) {
            return -200;
        }
    }

    private void change() {
        int c = about(3);
        int d = about(3);
        int s = about(7);
        switch (up(9)) {
            case 0, 1 -> same("act " + c + " " + d, x.act(c, d), y.act(c, d));
            case 2 -> same("rule " + c, x.rule(c), y.rule(c));
            case 3 -> same("lot " + s + " " + c, x.lot(s, c), y.lot(s, c));
            case 4 -> same("lend " + c + " " + d, x.lend(c, d), y.lend(c, d));
            case 5, 6 -> {
                int n = up(3) == 0 ? about(99) : up(5);
                same("go " + n, x.go(n), y.go(n));
            }
            case 7 -> same("undo", x.undo(), y.undo());
            case 8 -> same("keep", x.keep(), y.keep());
            default -> same("back", x.back(), y.back());
        }
    }

    private void ask() {
        int c = about(3);
        int d = about(3);
        int n = hours(99);
        int few = about(6);
        int what = about(4);
        switch (up(15)) {
            case 0, 1 -> same("table " + c + " " + n + " " + d, x.table(c, n, d), y.table(c, n, d));
            case 2 -> same("best " + n, x.best(n), y.best(n));
            case 3 -> same("plan " + c + " " + few, x.plan(c, few), y.plan(c, few));
            case 4 -> same("planned " + c + " " + few + " " + what, x.planned(c, few, what), y.planned(c, few, what));
            case 5 -> same("rests " + c + " " + d + " " + n, x.rests(c, d, n), y.rests(c, d, n));
            case 6 -> same("rest " + c + " " + d + " " + n + " " + what, x.rest(c, d, n, what), y.rest(c, d, n, what));
            case 7 -> same("unlike", x.unlike(), y.unlike());
            case 8 -> same("swap " + what, x.swap(what), y.swap(what));
            case 9, 10 -> same("lending " + c + " " + d + " " + n + " " + what, x.lending(c, d, n, what), y.lending(c, d, n, what));
            case 11 -> same("turns " + few, x.turns(few), y.turns(few));
            case 12 -> same("turn " + few + " " + what, x.turn(few, what), y.turn(few, what));
            case 13 -> same("odds " + few + " " + what, x.odds(few, what), y.odds(few, what));
            case 14 -> {
                int seed = up(9) == 0 ? about(Integer.MAX_VALUE - 3) : up(Integer.MAX_VALUE - 1);
                int bound = y.isCroft(c) ? Math.max(-1, y.now.gain[c] + up(2000) - 300) : up(99);
                same("chance " + seed + " " + n + " " + c + " " + bound, x.chance(seed, n, c, bound), y.chance(seed, n, c, bound));
            }
            default -> same("tried " + what + " " + c + " " + n, x.tried(what, what == 1 ? c : c / 2, n),
                y.tried(what, what == 1 ? c : c / 2, n));
        }
    }

    private void sight() {
        int hours = hours(99);
        int tons = up(3) == 0 ? about(9999) : up(90);
        boolean atLeast = random.nextBoolean();
        int which = about(Math.max(0, y.seen.size() - 1));
        int c = about(3);
        switch (up(6)) {
            case 0, 1 -> same("see " + hours + " " + tons + " " + atLeast, x.see(hours, tons, atLeast), y.see(hours, tons, atLeast));
            case 2 -> same("strike " + which, x.strike(which), y.strike(which));
            case 3 -> same("known " + which, x.known(which), y.known(which));
            default -> same("came " + c, x.came(c), y.came(c));
        }
    }
}
