import java.math.BigInteger;
import java.util.ArrayList;
import java.util.Arrays;
import java.util.Comparator;
import java.util.HashSet;
import java.util.List;
import java.util.Set;

/** The document once more, told as slowly and plainly as the Java library allows; the tests hold the class against it. */
final class WeedModel {
    static final int NONE = -1;
    static final List<String> NAMES = List.of("lies", "carts", "hill", "hour", "got", "wants", "sort");
    static final List<String> KINDS = List.of("load", "fork", "ebb", "worth");
    static final List<String> RULES = List.of("free", "lots", "saved");
    static final Set<String> WORDS = new HashSet<>();

    static {
        WORDS.addAll(List.of("stripe", "croft", "field", "tide", "heap", "rule", "gale", "seed", "law"));
        WORDS.addAll(RULES);
        WORDS.addAll(KINDS);
        WORDS.addAll(NAMES);
        WORDS.addAll(List.of("not", "and", "or"));
    }

    static final class Fault extends RuntimeException {
        final int kind;
        final int place;

        Fault(int kind, int place) {
            this.kind = kind;
            this.place = place;
        }
    }

    static final class Wrong extends RuntimeException {
    }

    record Token(String text, int at) {
        boolean isNumber() {
            return !text.isEmpty() && Character.isDigit(text.charAt(0));
        }

        boolean isWord() {
            return !text.isEmpty() && Character.isLetter(text.charAt(0));
        }
    }

    interface Expression {
        BigInteger value(int[] names);
    }

    // what a text tells
    static final class Text {
        List<Integer> stripes = new ArrayList<>();
        List<String> names = new ArrayList<>();
        List<int[]> crofts = new ArrayList<>();
        List<int[]> fields = new ArrayList<>();
        List<Integer> tides = new ArrayList<>();
        Expression[] laws = new Expression[4];
        int heap;
        int rule;
        int odds;
        int tons;
        int seed;
        int lines;
        int knots;
    }

    // ---- reading

    static final class Parser {
        final String source;
        final List<Token> tokens = new ArrayList<>();
        final Text text = new Text();
        final Set<String> once = new HashSet<>();
        int i;
        int open;

        Parser(String source) {
            this.source = source;
            java.util.regex.Matcher m = java.util.regex.Pattern
                .compile("[ \n]+|([a-z]+|[0-9]+|<=|<>|>=|[;()<=>+*/-])|([\\s\\S])").matcher(source);
            while (m.find()) {
                if (m.group(1) != null) {
                    tokens.add(new Token(m.group(1), m.start()));
                } else if (m.group(2) != null) {
                    tokens.add(new Token("?", m.start()));
                }
            }
            tokens.add(new Token("", source.length()));
        }

        Token peek() {
            return tokens.get(i);
        }

        boolean at(String... texts) {
            return Arrays.asList(texts).contains(peek().text());
        }

        RuntimeException fault(int kind) {
            throw new Fault(kind, peek().at());
        }

        int number(int most) {
            if (!peek().isNumber()) {
                fault(1);
            }
            BigInteger n = new BigInteger(peek().text());
            if (n.compareTo(BigInteger.valueOf(most)) > 0) {
                fault(2);
            }
            i++;
            return n.intValue();
        }

        String name() {
            String word = peek().text();
            if (!peek().isWord() || word.length() > 6 || WORDS.contains(word)) {
                fault(1);
            }
            return word;
        }

        Text read() {
            while (!at("")) {
                line();
                if (!at(";")) {
                    fault(1);
                }
                i++;
                text.lines++;
            }
            return text;
        }

        void full(int size, int most) {
            if (size >= most) {
                fault(2);
            }
            i++;
        }

        void line() {
            String word = peek().text();
            switch (word) {
                case "stripe" -> {
                    full(text.stripes.size(), 8);
                    text.stripes.add(number(999));
                }
                case "croft" -> {
                    full(text.crofts.size(), 4);
                    String name = name();
                    if (text.names.contains(name)) {
                        fault(3);
                    }
                    i++;
                    int[] croft = {number(5), number(9), number(99)};
                    text.names.add(name);
                    text.crofts.add(croft);
                }
                case "field" -> {
                    full(text.fields.size(), 6);
                    int croft = text.names.indexOf(name());
                    if (croft < 0) {
                        fault(4);
                    }
                    i++;
                    text.fields.add(new int[] {croft, number(99), number(9)});
                }
                case "tide" -> {
                    full(text.tides.size(), 4);
                    int place = i;
                    int tide = number(23);
                    i = place;
                    if (text.tides.contains(tide)) {
                        fault(3);
                    }
                    i++;
                    text.tides.add(tide);
                }
                case "heap", "rule", "gale", "seed" -> onceTold(word);
                case "law" -> law();
                default -> fault(1);
            }
        }

        void onceTold(String word) {
            if (!once.add(word)) {
                fault(3);
            }
            i++;
            if (word.equals("heap")) {
                text.heap = number(999);
            } else if (word.equals("seed")) {
                text.seed = number(99999);
            } else if (word.equals("gale")) {
                text.odds = number(100);
                text.tons = number(99);
            } else {
                text.rule = RULES.indexOf(peek().text());
                if (text.rule < 0) {
                    fault(1);
                }
                i++;
            }
        }

        void law() {
            i++;
            int kind = KINDS.indexOf(peek().text());
            if (kind < 0) {
                fault(1);
            }
            if (text.laws[kind] != null) {
                fault(3);
            }
            i++;
            text.laws[kind] = either();
        }

        void knot() {
            if (text.knots == 64) {
                fault(2);
            }
            text.knots++;
            i++;
        }

        static BigInteger bit(boolean so) {
            return so ? BigInteger.ONE : BigInteger.ZERO;
        }

        static boolean holds(BigInteger value) {
            return value.signum() != 0;
        }

        Expression either() {
            Expression left = both();
            while (at("or")) {
                knot();
                Expression a = left;
                Expression b = both();
                left = names -> {
                    BigInteger x = a.value(names);
                    BigInteger y = b.value(names);
                    return bit(holds(x) || holds(y));
                };
            }
            return left;
        }

        Expression both() {
            Expression left = denied();
            while (at("and")) {
                knot();
                Expression a = left;
                Expression b = denied();
                left = names -> {
                    BigInteger x = a.value(names);
                    BigInteger y = b.value(names);
                    return bit(holds(x) && holds(y));
                };
            }
            return left;
        }

        Expression denied() {
            if (at("not")) {
                knot();
                Expression a = denied();
                return names -> bit(!holds(a.value(names)));
            }
            return compared();
        }

        Expression compared() {
            Expression a = sum();
            if (!at("<", "<=", "=", "<>", ">=", ">")) {
                return a;
            }
            String sign = peek().text();
            knot();
            Expression b = sum();
            return names -> {
                int order = a.value(names).compareTo(b.value(names));
                return bit(order < 0 && sign.contains("<") || order > 0 && sign.contains(">")
                    || order == 0 && sign.contains("="));
            };
        }

        static BigInteger checked(BigInteger value) {
            if (value.abs().compareTo(BigInteger.TEN.pow(12)) > 0) {
                throw new Wrong();
            }
            return value;
        }

        Expression sum() {
            Expression left = product();
            while (at("+", "-")) {
                boolean plus = at("+");
                knot();
                Expression a = left;
                Expression b = product();
                left = names -> checked(plus ? a.value(names).add(b.value(names)) : a.value(names).subtract(b.value(names)));
            }
            return left;
        }

        Expression product() {
            Expression left = primary();
            while (at("*", "/")) {
                boolean times = at("*");
                knot();
                Expression a = left;
                Expression b = primary();
                left = names -> {
                    BigInteger x = a.value(names);
                    BigInteger y = b.value(names);
                    if (!times && y.signum() == 0) {
                        throw new Wrong();
                    }
                    return checked(times ? x.multiply(y) : x.divide(y));
                };
            }
            return left;
        }

        Expression primary() {
            if (at("(")) {
                if (open == 8) {
                    fault(2);
                }
                open++;
                i++;
                Expression inner = either();
                if (!at(")")) {
                    fault(1);
                }
                open--;
                i++;
                return inner;
            }
            int name = NAMES.indexOf(peek().text());
            if (name >= 0) {
                knot();
                return names -> BigInteger.valueOf(names[name]);
            }
            int before = i;
            int number = number(9999);
            i = before;
            knot();
            return names -> BigInteger.valueOf(number);
        }
    }

    // ---- a strand at an hour

    static final class State implements Cloneable {
        Text text;
        int hour;
        int heap;
        int sea;
        int rule;
        long number;
        boolean tides = true;
        int[] lies;
        int[] lot;
        int[] carts;
        int[] hill;
        int[] come;
        int[] act;
        int[] gain;
        int[] forked;
        int[] got;

        State(Text text) {
            this.text = text;
            heap = text.heap;
            rule = text.rule;
            number = text.seed;
            int crofts = text.crofts.size();
            lies = text.stripes.stream().mapToInt(n -> n).toArray();
            lot = new int[lies.length];
            for (int s = 0; s < lot.length; s++) {
                lot[s] = crofts == 0 ? NONE : s % crofts;
            }
            carts = text.crofts.stream().mapToInt(c -> c[0]).toArray();
            hill = text.crofts.stream().mapToInt(c -> c[1]).toArray();
            come = text.crofts.stream().mapToInt(c -> c[2]).toArray();
            act = new int[crofts];
            gain = new int[crofts];
            forked = new int[crofts];
            got = new int[text.fields.size()];
        }

        State another() {
            try {
                State s = (State) clone();
                s.lies = lies.clone();
                s.lot = lot.clone();
                s.carts = carts.clone();
                s.hill = hill.clone();
                s.come = come.clone();
                s.act = act.clone();
                s.gain = gain.clone();
                s.forked = forked.clone();
                s.got = got.clone();
                return s;
            } catch (CloneNotSupportedException e) {
                throw new IllegalStateException(e);
            }
        }

        int gains() {
            return Arrays.stream(gain).sum();
        }

        // null: an error, or no such law
        Long law(int kind, int... names) {
            if (text.laws[kind] == null) {
                return null;
            }
            try {
                return text.laws[kind].value(names).longValueExact();
            } catch (Wrong e) {
                return null;
            }
        }

        Long loadOrFork(int kind, int croft, int there) {
            return law(kind, there, carts[croft], hill[croft], hour % 24, 0, 0, 0);
        }

        Long ebbOf(int s) {
            return law(2, lies[s], 0, 0, hour % 24, 0, 0, 0);
        }

        Long worthLaw(int f) {
            int[] field = text.fields.get(f);
            return law(3, 0, carts[field[0]], hill[field[0]], hour % 24, got[f], field[1], field[2]);
        }

        static int put(Long value, long most, int otherwise) {
            return value == null ? otherwise : (int) Math.max(0, Math.min(most, value));
        }

        int worth(int f) {
            return put(worthLaw(f), 99, Math.max(0, text.fields.get(f)[1] - got[f]));
        }

        // -3 the heap, -2 none
        int source(int croft, boolean fork) {
            List<Integer> from = new ArrayList<>();
            for (int s = 0; s < lies.length; s++) {
                if (lies[s] > 0 && (rule != 1 || lot[s] == croft)) {
                    from.add(s);
                }
            }
            from.sort(Comparator.comparing((Integer s) -> -lies[s]));
            boolean useHeap = !fork && heap > 0 && (rule == 2 || from.isEmpty());
            return useHeap ? -3 : from.isEmpty() ? -2 : from.get(0);
        }

        void acts(int c) {
            int does = act[c];
            if (does == 0) {
                does = rule == 2 && Arrays.stream(lies).anyMatch(n -> n > 0) ? 2 : 1;
            }
            int from = source(c, does == 2);
            if (does == 3 || from == -2) {
                return;
            }
            int there = from == -3 ? heap : lies[from];
            int moved = 0;
            if (does == 2) {
                moved = Math.min(there, put(loadOrFork(1, c, there), 99, 8));
                heap += moved;
                forked[c] += moved;
            } else {
                int into = -1;
                for (int f = 0; f < got.length; f++) {
                    if (text.fields.get(f)[0] == c && (into < 0 || worth(f) > worth(into))) {
                        into = f;
                    }
                }
                if (into < 0) {
                    return;
                }
                moved = Math.min(there, put(loadOrFork(0, c, there), 99, Math.max(0, 5 * carts[c] - hill[c])));
                gain[c] += moved * worth(into);
                got[into] += moved;
            }
            if (from == -3) {
                heap -= moved;
            } else {
                lies[from] -= moved;
            }
        }

        State pass(int n, boolean gales) {
            for (int k = 0; k < n; k++) {
                if (gales && text.odds > 0) {
                    number = (number * 1103515245L + 12345L) % (1L << 31);
                    if (number / 65536 % 100 < text.odds) {
                        for (int s = 0; s < lies.length; s++) {
                            lies[s] = Math.min(9999, lies[s] + text.tons);
                        }
                    }
                }
                for (int c = 0; c < carts.length; c++) {
                    if (come[c] <= hour) {
                        acts(c);
                    }
                }
                if (tides && text.tides.contains(hour % 24)) {
                    for (int s = 0; s < lies.length; s++) {
                        int gone = put(ebbOf(s), lies[s], lies[s] / 2);
                        lies[s] -= gone;
                        sea += gone;
                    }
                }
                hour++;
            }
            return this;
        }

        int onLots(int croft) {
            int sum = 0;
            for (int s = 0; s < lies.length; s++) {
                sum += lot[s] == croft ? lies[s] : 0;
            }
            return sum;
        }

        int unlike() {
            int[] sums = new int[carts.length];
            for (int c = 0; c < sums.length; c++) {
                sums[c] = onLots(c);
            }
            return spread(sums);
        }
    }

    static int spread(int[] of) {
        return of.length == 0 ? 0 : Arrays.stream(of).max().getAsInt() - Arrays.stream(of).min().getAsInt();
    }

    // ---- the object

    StringBuilder tape = new StringBuilder();
    Text text = new Text();
    State now = new State(text);
    State image;
    List<State> before = new ArrayList<>();
    List<int[]> seen = new ArrayList<>();
    int known = -1;
    int fault;
    int place = NONE;

    int feed(int a, int b, int c, int d, int e) {
        if (tape.length() > 680) {
            return NONE;
        }
        for (int number : new int[] {a, b, c, d, e}) {
            for (byte one : java.nio.ByteBuffer.allocate(4).putInt(number).array()) {
                tape.append((char) Byte.toUnsignedInt(one));
            }
        }
        return tape.length();
    }

    int text(int n) {
        if (n < 0 || n > tape.length()) {
            return -2;
        }
        String source = tape.substring(0, n);
        tape.setLength(0);
        try {
            text = new Parser(source).read();
        } catch (Fault f) {
            fault = f.kind;
            place = f.place;
            return NONE;
        }
        fault = 0;
        place = NONE;
        now = new State(text);
        image = null;
        before.clear();
        seen.clear();
        known = -1;
        return text.lines;
    }

    int fault(int what) {
        return what == 0 ? fault : what == 1 ? place : NONE;
    }

    int named(int letters) {
        for (int c = 0; c < text.names.size(); c++) {
            int code = 0;
            String padded = (text.names.get(c) + "``````").substring(0, 6);
            for (char letter : padded.toCharArray()) {
                code = code * 32 + letter - '`';
            }
            if (code == letters) {
                return c;
            }
        }
        return NONE;
    }

    boolean isCroft(int c) {
        return c >= 0 && c < now.carts.length;
    }

    boolean isStripe(int s) {
        return s >= 0 && s < now.lies.length;
    }

    static boolean in(int n, int least, int most) {
        return least <= n && n <= most;
    }

    int stripe(int s, int what) {
        if (!isStripe(s)) {
            throw new IndexOutOfBoundsException();
        }
        if (!in(what, 0, 1)) {
            throw new java.util.NoSuchElementException();
        }
        return what == 0 ? now.lies[s] : now.lot[s];
    }

    int croft(int c, int what) {
        if (!isCroft(c) || !in(what, 0, 6)) {
            return NONE;
        }
        return new int[] {now.carts[c], now.hill[c], now.come[c], now.act[c], now.gain[c], now.forked[c], now.onLots(c)}[what];
    }

    int field(int f, int what) {
        if (!in(f, 0, now.got.length - 1) || !in(what, 0, 4)) {
            return NONE;
        }
        int[] field = text.fields.get(f);
        return new int[] {field[0], field[1], field[2], now.got[f], now.worth(f)}[what];
    }

    int source(int c, int what) {
        return isCroft(c) && in(what, 0, 1) ? now.source(c, what == 1) : NONE;
    }

    long law(int what, int which, int where) {
        Long value = null;
        if (in(what, 0, 1) && isCroft(which) && isStripe(where)) {
            value = now.loadOrFork(what, which, now.lies[where]);
        } else if (what == 0 && isCroft(which) && where == -3) {
            value = now.loadOrFork(0, which, now.heap);
        } else if (what == 2 && isStripe(which)) {
            value = now.ebbOf(which);
        } else if (what == 3 && in(which, 0, now.got.length - 1)) {
            value = now.worthLaw(which);
        }
        return value == null ? Long.MIN_VALUE : value;
    }

    void remember() {
        before.add(now.another());
        if (before.size() > 20) {
            before.remove(0);
        }
    }

    boolean act(int c, int act) {
        if (!isCroft(c) || !in(act, 0, 3) || now.act[c] == act) {
            return false;
        }
        remember();
        now.act[c] = act;
        return true;
    }

    boolean rule(int rule) {
        if (!in(rule, 0, 2) || now.rule == rule) {
            return false;
        }
        remember();
        now.rule = rule;
        return true;
    }

    boolean lot(int s, int c) {
        if (!isStripe(s) || !isCroft(c) || now.lot[s] == c) {
            return false;
        }
        remember();
        now.lot[s] = c;
        return true;
    }

    boolean lend(int from, int to) {
        if (!isCroft(from) || !isCroft(to) || from == to || now.carts[from] == 0 || now.carts[to] >= 5) {
            return false;
        }
        remember();
        now.carts[from]--;
        now.carts[to]++;
        return true;
    }

    int go(int n) {
        if (!in(n, 0, 99) || now.hour + n > 9999) {
            return NONE;
        }
        if (n > 0) {
            before.clear();
        }
        now.pass(n, true);
        return now.hour;
    }

    int table(int rule, int n, int what) {
        if (!in(rule, 0, 2) || !in(n, 0, 99) || !in(what, 0, 3)) {
            return NONE;
        }
        State s = now.another();
        s.rule = rule;
        Arrays.fill(s.act, 0);
        s.pass(n, false);
        return new int[] {Arrays.stream(s.got).sum() - Arrays.stream(now.got).sum(), s.sea - now.sea, s.heap,
            s.gains() - now.gains()}[what];
    }

    int best(int n) {
        if (!in(n, 0, 99)) {
            return NONE;
        }
        int best = 0;
        for (int rule = 1; rule < 3; rule++) {
            best = table(rule, n, 3) > table(best, n, 3) ? rule : best;
        }
        return best;
    }

    // the greatest gain and the acts behind it, by recursion
    int[] bestActs(State s, int croft, int n) {
        if (n == 0) {
            return new int[] {s.gain[croft]};
        }
        int[] best = null;
        for (int act = 1; act <= 3; act++) {
            State next = s.another();
            next.act[croft] = act;
            next.pass(1, false);
            int[] rest = bestActs(next, croft, n - 1);
            if (best == null || rest[0] > best[0]) {
                best = new int[n + 1];
                best[0] = rest[0];
                best[1] = act;
                System.arraycopy(rest, 1, best, 2, n - 1);
            }
        }
        return best;
    }

    int plan(int c, int n) {
        return isCroft(c) && in(n, 1, 6) ? bestActs(now, c, n)[0] - now.gain[c] : NONE;
    }

    int planned(int c, int n, int k) {
        if (!isCroft(c) || !in(n, 1, 6) || k < 0) {
            return NONE;
        }
        return k >= n ? -2 : bestActs(now, c, n)[k + 1];
    }

    List<Integer> restsOf(int one, int other, int n) {
        if (!isCroft(one) || !isCroft(other) || one == other || !in(n, 1, 99) || now.come[one] <= now.hour
                || now.come[other] <= now.hour) {
            return null;
        }
        int[][][] gains = new int[4][4][];
        for (int i = 0; i < 4; i++) {
            for (int j = 0; j < 4; j++) {
                State s = now.another();
                s.come[one] = s.hour + i;
                s.come[other] = s.hour + j;
                s.pass(n, false);
                gains[i][j] = new int[] {s.gain[one], s.gain[other]};
            }
        }
        List<Integer> rests = new ArrayList<>();
        for (int i = 0; i < 4; i++) {
            for (int j = 0; j < 4; j++) {
                boolean stays = true;
                for (int k = 0; k < 4; k++) {
                    stays &= gains[k][j][0] <= gains[i][j][0] && gains[i][k][1] <= gains[i][j][1];
                }
                if (stays) {
                    rests.add(10 * i + j);
                }
            }
        }
        return rests;
    }

    int rests(int one, int other, int n) {
        List<Integer> rests = restsOf(one, other, n);
        return rests == null ? NONE : rests.size();
    }

    int rest(int one, int other, int n, int k) {
        List<Integer> rests = restsOf(one, other, n);
        return rests == null || k < 0 ? NONE : k < rests.size() ? rests.get(k) : -2;
    }

    int unlike() {
        return now.unlike();
    }

    int swap(int what) {
        if (!in(what, 0, 2)) {
            return NONE;
        }
        List<int[]> swaps = new ArrayList<>();
        for (int s = 0; s < now.lies.length; s++) {
            for (int t = s + 1; t < now.lies.length; t++) {
                State other = now.another();
                other.lot[s] = now.lot[t];
                other.lot[t] = now.lot[s];
                if (other.unlike() < now.unlike()) {
                    swaps.add(new int[] {s, t, other.unlike()});
                }
            }
        }
        swaps.sort(Comparator.comparing((int[] swap) -> swap[2]));
        return swaps.isEmpty() ? -2 : swaps.get(0)[what];
    }

    int lending(int from, int to, int n, int what) {
        if (!isCroft(from) || !isCroft(to) || from == to || now.carts[from] == 0 || now.carts[to] >= 5 || !in(n, 1, 99)
                || !in(what, 0, 2)) {
            return NONE;
        }
        State plain = now.another().pass(n, false);
        State lent = now.another();
        lent.carts[from]--;
        lent.carts[to]++;
        lent.pass(n, false);
        int less = Math.max(0, plain.gain[from] - lent.gain[from]);
        int more = Math.max(0, lent.gain[to] - plain.gain[to]);
        return what == 0 ? less : what == 1 ? more : more > less ? less + 1 : -2;
    }

    // all ways with their heap and unlikeness, in order; the best is the first by (heap, unlike)
    void turnWays(State s, int n, int[] way, int k, List<int[]> ways) {
        if (k == n) {
            int[] all = Arrays.copyOf(way, n + 2);
            all[n] = s.heap;
            all[n + 1] = spread(s.forked);
            ways.add(all);
            return;
        }
        for (int c = 0; c < s.carts.length; c++) {
            State next = s.another();
            Arrays.fill(next.act, 3);
            next.act[c] = 2;
            next.pass(1, false);
            way[k] = c;
            turnWays(next, n, way, k + 1, ways);
        }
    }

    int[] bestTurns(int n) {
        if (!in(n, 1, 4) || now.carts.length == 0) {
            return null;
        }
        State s = now.another();
        Arrays.fill(s.come, 0);
        List<int[]> ways = new ArrayList<>();
        turnWays(s, n, new int[n], 0, ways);
        ways.sort(Comparator.comparing((int[] way) -> -way[n]).thenComparing(way -> way[n + 1]));
        return ways.get(0);
    }

    int turns(int n) {
        int[] best = bestTurns(n);
        return best == null ? NONE : best[n];
    }

    int turn(int n, int k) {
        int[] best = bestTurns(n);
        return best == null || k < 0 ? NONE : k < n ? best[k] : -2;
    }

    int odds(int k, int what) {
        if (!in(k, 1, 4) || !in(what, 0, 1)) {
            return NONE;
        }
        BigInteger below = BigInteger.valueOf(100).pow(k);
        BigInteger above = below.subtract(BigInteger.valueOf(100 - text.odds).pow(k));
        return (what == 0 ? above : below).divide(above.gcd(below)).intValueExact();
    }

    int see(int hours, int tons, boolean atLeast) {
        if (!in(hours, 1, 99) || !in(tons, 0, 9999) || seen.size() == 24) {
            return NONE;
        }
        seen.add(new int[] {hours, tons, atLeast ? 1 : 0});
        return seen.size() - 1;
    }

    int strike(int which) {
        if (!in(which, 0, seen.size() - 1) || seen.size() == 24) {
            return NONE;
        }
        seen.add(new int[] {which});
        return seen.size() - 1;
    }

    boolean known(int n) {
        if (!in(n, -1, seen.size())) {
            return false;
        }
        known = n;
        return true;
    }

    int knownCount() {
        return known < 0 ? seen.size() : known;
    }

    // one is struck, if a later one that isn't struck itself strikes it
    boolean struck(int i) {
        for (int k = i + 1; k < knownCount(); k++) {
            if (seen.get(k).length == 1 && seen.get(k)[0] == i && !struck(k)) {
                return true;
            }
        }
        return false;
    }

    int came(int croft) {
        if (!isCroft(croft)) {
            return NONE;
        }
        int bits = 0;
        for (int h = 0; h < 24; h++) {
            boolean so = true;
            for (int i = 0; i < knownCount(); i++) {
                int[] one = seen.get(i);
                if (one.length == 3 && !struck(i)) {
                    State s = new State(text);
                    s.come[croft] = h;
                    s.pass(one[0], false);
                    so &= one[2] == 1 ? s.heap >= one[1] : s.heap < one[1];
                }
            }
            bits += so ? 1 << h : 0;
        }
        return bits;
    }

    int chance(int seed, int n, int croft, int bound) {
        if (seed < 0 || !in(n, 1, 99) || !isCroft(croft) || !in(bound, 0, 999999)) {
            return NONE;
        }
        int times = 0;
        long number = seed;
        for (int i = 0; i < 10; i++) {
            State s = now.another();
            s.number = number;
            s.pass(n, true);
            number = s.number;
            times += s.gain[croft] >= bound ? 1 : 0;
        }
        return times;
    }

    int tried(int what, int i, int n) {
        if (!in(what, 0, 4) || !in(n, 0, 99) || (what == 1 ? !isCroft(i) : i != 0)) {
            return NONE;
        }
        State s = now.another();
        switch (what) {
            case 0 -> s.tides = false;
            case 1 -> s.come[i] = 1000000;
            case 2 -> Arrays.setAll(s.carts, c -> s.carts[c] + 1);
            case 3 -> Arrays.fill(s.hill, 0);
            default -> s.heap = 0;
        }
        return s.pass(n, false).gains() - now.gains();
    }

    int undo() {
        if (before.isEmpty()) {
            return NONE;
        }
        now = before.remove(before.size() - 1);
        return before.size();
    }

    int keep() {
        image = now.another();
        return now.hour;
    }

    int back() {
        if (image == null) {
            return NONE;
        }
        now = image.another();
        before.clear();
        return now.hour;
    }

    int count(int what) {
        if (!in(what, 0, 14)) {
            return NONE;
        }
        return new int[] {now.lies.length, now.carts.length, now.got.length, text.tides.size(), text.knots, now.hour,
            Arrays.stream(now.lies).sum(), now.heap, now.sea, Arrays.stream(now.got).sum(), now.gains(), now.rule,
            seen.size(), knownCount(), before.size()}[what];
    }
}
