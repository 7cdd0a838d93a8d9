import java.util.NoSuchElementException;

/** A strand after a gale: what lies on it, who carts it, what it is worth; ../shared/DOC.md says what each call does. */
public final class WeedStrand {
    public static final int NONE = -1;

    private static final int NOT_SO_MANY = -2;
    private static final int NO_SOURCE = -2;
    private static final int ON_HEAP = -3;

    private static final int MOST_BYTES = 700;
    private static final int MOST_STRIPES = 8;
    private static final int MOST_CROFTS = 4;
    private static final int MOST_FIELDS = 6;
    private static final int MOST_TIDES = 4;
    private static final int MOST_CARTS = 5;
    private static final int MOST_SEEN = 24;
    private static final int MOST_UNDONE = 20;
    private static final int MOST_HOURS = 99;
    private static final int LAST_HOUR = 9999;
    private static final int MOST_LYING = 9999;
    private static final int MOST_PLANNED = 6;
    private static final int MOST_TURNS = 4;
    private static final int COMING_HOURS = 4;
    private static final int MOST_ODDS_HOURS = 4;
    private static final int CAME_HOURS = 24;
    private static final int DAY = 24;
    private static final int TIMES_DRAWN = 10;
    private static final int MOST_BOUND = 999999;

    private static final int FREE = 0;
    private static final int LOTS = 1;
    private static final int SAVED = 2;

    private static final int AS_RULED = 0;
    private static final int CARTS = 1;
    private static final int FORKS = 2;
    private static final int RESTS = 3;

    private static final int LOAD = 0;
    private static final int FORK = 1;
    private static final int EBB = 2;
    private static final int WORTH = 3;

    private static final int NO_TIDES = 0;
    private static final int NOT_COMING = 1;
    private static final int CART_MORE = 2;
    private static final int NO_HILL = 3;
    private static final int NO_HEAP = 4;

    private final Tokens tape = new Tokens();
    private final Reader reader = new Reader();
    private final Seen seen = new Seen();
    private final Undos undos = new Undos();
    private final int[] way = new int[MOST_PLANNED];
    private final int[] bestWay = new int[MOST_PLANNED];
    private final int[] firstGains = new int[COMING_HOURS * COMING_HOURS];
    private final int[] secondGains = new int[COMING_HOURS * COMING_HOURS];
    private final int[] bestSwap = new int[3];
    private final Strand start;
    private final Strand now;
    private final Strand image;
    private final Strand[] steps;
    private Told told;
    private Told spare;
    private boolean imageKept;
    private int latestFault;
    private int latestPlace;

    public WeedStrand() {
        Told nothing = new Told();
        told = nothing;
        spare = new Told();
        start = new Strand(nothing);
        now = new Strand(nothing);
        image = new Strand(nothing);
        steps = new Strand[MOST_PLANNED + 1];
        for (int i = 0; i < steps.length; i++) {
            steps[i] = new Strand(nothing);
        }
        latestPlace = NONE;
    }

    public int feed(int a, int b, int c, int d, int e) {
        if (tape.held + 20 > MOST_BYTES) {
            return NONE;
        }
        tape.append(a);
        tape.append(b);
        tape.append(c);
        tape.append(d);
        tape.append(e);
        return tape.held;
    }

    public int text(int n) {
        if (n < 0 || n > tape.held) {
            return NOT_SO_MANY;
        }
        boolean faultless = reader.reads(tape, n, spare);
        tape.held = 0;
        latestFault = reader.fault;
        latestPlace = reader.faultPlace;
        if (!faultless) {
            return NONE;
        }
        Told old = told;
        told = spare;
        spare = old;
        start.begin(told);
        now.copy(start);
        imageKept = false;
        undos.size = 0;
        seen.clear();
        return told.lines;
    }

    public int fault(int what) {
        if (what == 0) {
            return latestFault;
        }
        return what == 1 ? latestPlace : NONE;
    }

    public int named(int letters) {
        return told.croftNamed(letters);
    }

    public int stripe(int stripe, int what) throws IndexOutOfBoundsException, NoSuchElementException {
        if (!isStripe(stripe)) {
            throw new IndexOutOfBoundsException("no such stripe");
        }
        if (what < 0 || what > 1) {
            throw new NoSuchElementException("no such what");
        }
        return what == 0 ? now.lies[stripe] : now.lot[stripe];
    }

    public int croft(int croft, int what) {
        if (!isCroft(croft)) {
            return NONE;
        }
        switch (what) {
            case 0: return now.carts[croft];
            case 1: return now.hill[croft];
            case 2: return now.come[croft];
            case 3: return now.act[croft];
            case 4: return now.gain[croft];
            case 5: return now.forked[croft];
            case 6: return now.liesOnLots(croft);
            default: return NONE;
        }
    }

    public int field(int field, int what) {
        if (!isField(field)) {
            return NONE;
        }
        switch (what) {
            case 0: return told.fieldCroft[field];
            case 1: return told.wants[field];
            case 2: return told.sort[field];
            case 3: return now.got[field];
            case 4: return now.worthOf(field);
            default: return NONE;
        }
    }

    public int source(int croft, int what) {
        if (!isCroft(croft) || what < 0 || what > 1) {
            return NONE;
        }
        return now.sourceOf(croft, what == 1);
    }

    public long law(int what, int which, int where) {
        switch (what) {
            case LOAD:
            case FORK:
                return croftLaw(what, which, where);
            case EBB:
                if (!isStripe(which)) {
                    return Laws.ERROR;
                }
                now.namePlace(now.lies[which], NONE);
                return told.laws.value(EBB);
            case WORTH:
                if (!isField(which)) {
                    return Laws.ERROR;
                }
                now.nameField(which);
                return told.laws.value(WORTH);
            default:
                return Laws.ERROR;
        }
    }

    private long croftLaw(int kind, int croft, int where) {
        boolean atHeap = kind == LOAD && where == ON_HEAP;
        if (!isCroft(croft) || !atHeap && !isStripe(where)) {
            return Laws.ERROR;
        }
        now.namePlace(atHeap ? now.heap : now.lies[where], croft);
        return told.laws.value(kind);
    }

    public boolean act(int croft, int act) {
        if (!isCroft(croft) || act < AS_RULED || act > RESTS || now.act[croft] == act) {
            return false;
        }
        undos.add(Undos.ACT, croft, now.act[croft]);
        now.act[croft] = act;
        return true;
    }

    public boolean rule(int rule) {
        if (!isRule(rule) || now.rule == rule) {
            return false;
        }
        undos.add(Undos.RULE, 0, now.rule);
        now.rule = rule;
        return true;
    }

    public boolean lot(int stripe, int croft) {
        if (!isStripe(stripe) || !isCroft(croft) || now.lot[stripe] == croft) {
            return false;
        }
        undos.add(Undos.LOT, stripe, now.lot[stripe]);
        now.lot[stripe] = croft;
        return true;
    }

    public boolean lend(int from, int to) {
        if (!canLend(from, to)) {
            return false;
        }
        undos.add(Undos.CART, from, to);
        now.moveCart(from, to);
        return true;
    }

    public int go(int n) {
        if (n < 0 || n > MOST_HOURS || now.hour + n > LAST_HOUR) {
            return NONE;
        }
        if (n > 0) {
            undos.size = 0;
        }
        now.passHoursWithGales(n);
        return now.hour;
    }

    public int table(int rule, int n, int what) {
        if (!isRule(rule) || !isIn(n, 0, MOST_HOURS)) {
            return NONE;
        }
        Strand then = ruledBy(rule, n);
        switch (what) {
            case 0: return then.allGot() - now.allGot();
            case 1: return then.sea - now.sea;
            case 2: return then.heap;
            case 3: return then.allGains() - now.allGains();
            default: return NONE;
        }
    }

    public int best(int n) {
        if (!isIn(n, 0, MOST_HOURS)) {
            return NONE;
        }
        int found = FREE;
        int most = NONE;
        for (int rule = FREE; rule <= SAVED; rule++) {
            int gains = ruledBy(rule, n).allGains();
            if (gains > most) {
                most = gains;
                found = rule;
            }
        }
        return found;
    }

    private Strand ruledBy(int rule, int n) {
        Strand tried = steps[0];
        tried.copy(now);
        tried.rule = rule;
        for (int c = 0; c < tried.act.length; c++) {
            tried.act[c] = AS_RULED;
        }
        tried.passHours(n);
        return tried;
    }

    public int plan(int croft, int n) {
        return isCroft(croft) && isIn(n, 1, MOST_PLANNED) ? planFor(croft, n) : NONE;
    }

    public int planned(int croft, int n, int k) {
        if (!isCroft(croft) || !isIn(n, 1, MOST_PLANNED) || k < 0) {
            return NONE;
        }
        if (k >= n) {
            return NOT_SO_MANY;
        }
        planFor(croft, n);
        return bestWay[k];
    }

    /** Leaves the best ACTS in bestWay; ways that begin alike share the HOURS that they have in common. */
    private int planFor(int croft, int n) {
        startWays(n, CARTS);
        int ways = power(RESTS - CARTS + 1, n);
        int most = NONE;
        int changed = 0;
        for (int i = 0; i < ways; i++) {
            for (int k = changed; k < n; k++) {
                Strand next = steps[k + 1];
                next.copy(steps[k]);
                next.act[croft] = way[k];
                next.passHour();
            }
            int more = steps[n].gain[croft] - now.gain[croft];
            if (more > most) {
                most = more;
                System.arraycopy(way, 0, bestWay, 0, n);
            }
            changed = nextWay(n, CARTS, RESTS);
        }
        return most;
    }

    private void startWays(int n, int least) {
        steps[0].copy(now);
        for (int k = 0; k < n && k < way.length; k++) {
            way[k] = least;
        }
    }

    /** The first place at which the next way differs; 0 behind the last one. */
    private int nextWay(int n, int least, int most) {
        for (int k = n - 1; k >= 0; k--) {
            if (way[k] < most) {
                way[k]++;
                return k;
            }
            way[k] = least;
        }
        return 0;
    }

    public int rests(int one, int other, int n) {
        if (!mayCome(one, other, n)) {
            return NONE;
        }
        workOutComing(one, other, n);
        int found = 0;
        for (int cell = 0; cell < firstGains.length; cell++) {
            if (isRest(cell)) {
                found++;
            }
        }
        return found;
    }

    public int rest(int one, int other, int n, int k) {
        if (!mayCome(one, other, n) || k < 0) {
            return NONE;
        }
        workOutComing(one, other, n);
        int found = 0;
        for (int cell = 0; cell < firstGains.length; cell++) {
            if (isRest(cell)) {
                if (found == k) {
                    return 10 * (cell / COMING_HOURS) + cell % COMING_HOURS;
                }
                found++;
            }
        }
        return NOT_SO_MANY;
    }

    private boolean mayCome(int one, int other, int n) {
        return isCroft(one) && isCroft(other) && one != other && isIn(n, 1, MOST_HOURS)
            && now.come[one] > now.hour && now.come[other] > now.hour;
    }

    private void workOutComing(int one, int other, int n) {
        Strand tried = steps[0];
        for (int cell = 0; cell < firstGains.length; cell++) {
            tried.copy(now);
            tried.come[one] = now.hour + cell / COMING_HOURS;
            tried.come[other] = now.hour + cell % COMING_HOURS;
            tried.passHours(n);
            firstGains[cell] = tried.gain[one];
            secondGains[cell] = tried.gain[other];
        }
    }

    private boolean isRest(int cell) {
        int first = cell / COMING_HOURS;
        int second = cell % COMING_HOURS;
        for (int i = 0; i < COMING_HOURS; i++) {
            if (firstGains[i * COMING_HOURS + second] > firstGains[cell]
                    || secondGains[first * COMING_HOURS + i] > secondGains[cell]) {
                return false;
            }
        }
        return true;
    }

    public int unlike() {
        return now.unlikeLots();
    }

    public int swap(int what) {
        if (!isIn(what, 0, 2)) {
            return NONE;
        }
        return findSwap() ? bestSwap[what] : NOT_SO_MANY;
    }

    private boolean findSwap() {
        Strand tried = steps[0];
        tried.copy(now);
        int least = now.unlikeLots();
        boolean found = false;
        for (int s = 0; s < told.stripes; s++) {
            for (int t = s + 1; t < told.stripes; t++) {
                tried.lot[s] = now.lot[t];
                tried.lot[t] = now.lot[s];
                int unlike = tried.unlikeLots();
                tried.lot[s] = now.lot[s];
                tried.lot[t] = now.lot[t];
                if (unlike < least) {
                    least = unlike;
                    found = true;
                    bestSwap[0] = s;
                    bestSwap[1] = t;
                    bestSwap[2] = unlike;
                }
            }
        }
        return found;
    }

    public int lending(int from, int to, int n, int what) {
        if (!canLend(from, to) || !isIn(n, 1, MOST_HOURS) || !isIn(what, 0, 2)) {
            return NONE;
        }
        Strand without = steps[0];
        without.copy(now);
        without.passHours(n);
        Strand with = steps[1];
        with.copy(now);
        with.moveCart(from, to);
        with.passHours(n);
        int less = Math.max(without.gain[from] - with.gain[from], 0);
        int more = Math.max(with.gain[to] - without.gain[to], 0);
        if (what == 2) {
            return more > less ? less + 1 : NOT_SO_MANY;
        }
        return what == 0 ? less : more;
    }

    private boolean canLend(int from, int to) {
        return isCroft(from) && isCroft(to) && from != to
            && now.carts[from] > 0 && now.carts[to] < MOST_CARTS;
    }

    public int turns(int n) {
        return isIn(n, 1, MOST_TURNS) && told.crofts > 0 ? findTurns(n) : NONE;
    }

    public int turn(int n, int k) {
        if (!isIn(n, 1, MOST_TURNS) || told.crofts == 0 || k < 0) {
            return NONE;
        }
        if (k >= n) {
            return NOT_SO_MANY;
        }
        findTurns(n);
        return bestWay[k];
    }

    /** Leaves who forks in bestWay. */
    private int findTurns(int n) {
        startWays(n, 0);
        for (int c = 0; c < told.crofts; c++) {
            steps[0].come[c] = 0;
        }
        int ways = power(told.crofts, n);
        int most = NONE;
        int leastUnlike = 0;
        int changed = 0;
        for (int i = 0; i < ways; i++) {
            for (int k = changed; k < n; k++) {
                steps[k + 1].copy(steps[k]);
                steps[k + 1].letForkAlone(way[k]);
                steps[k + 1].passHour();
            }
            int heap = steps[n].heap;
            int unlike = spread(steps[n].forked, told.crofts);
            if (heap > most || heap == most && unlike < leastUnlike) {
                most = heap;
                leastUnlike = unlike;
                System.arraycopy(way, 0, bestWay, 0, n);
            }
            changed = nextWay(n, 0, told.crofts - 1);
        }
        return most;
    }

    public int odds(int k, int what) {
        if (!isIn(k, 1, MOST_ODDS_HOURS) || !isIn(what, 0, 1)) {
            return NONE;
        }
        int below = power(100, k);
        int above = below - power(100 - told.odds, k);
        int common = commonDivisor(below, above);
        if (common == 0) {
            return NONE;
        }
        return what == 0 ? above / common : below / common;
    }

    public int see(int hours, int tons, boolean atLeast) {
        if (!isIn(hours, 1, MOST_HOURS) || !isIn(tons, 0, MOST_LYING)) {
            return NONE;
        }
        return seen.add(atLeast ? Seen.AT_LEAST : Seen.LESS, hours, tons);
    }

    public int strike(int seen) {
        if (!isIn(seen, 0, this.seen.size - 1)) {
            return NONE;
        }
        return this.seen.add(Seen.STRIKE, 0, seen);
    }

    public boolean known(int n) {
        if (!isIn(n, Seen.ALL, seen.size)) {
            return false;
        }
        seen.known = n;
        return true;
    }

    public int came(int croft) {
        if (!isCroft(croft)) {
            return NONE;
        }
        seen.sift();
        int bits = 0;
        for (int hour = 0; hour < CAME_HOURS; hour++) {
            if (agreesWithSeen(croft, hour)) {
                bits |= 1 << hour;
            }
        }
        return bits;
    }

    private boolean agreesWithSeen(int croft, int hour) {
        Strand tried = steps[0];
        tried.copy(start);
        tried.come[croft] = hour;
        int last = seen.lastHour();
        for (int passed = 1; passed <= last; passed++) {
            tried.passHour();
            if (!seen.agrees(passed, tried.heap)) {
                return false;
            }
        }
        return true;
    }

    public int chance(int seed, int n, int croft, int bound) {
        if (seed < 0 || !isIn(n, 1, MOST_HOURS) || !isCroft(croft) || !isIn(bound, 0, MOST_BOUND)) {
            return NONE;
        }
        Strand tried = steps[0];
        int reached = 0;
        int number = seed;
        for (int i = 0; i < TIMES_DRAWN; i++) {
            tried.copy(now);
            tried.number = number;
            tried.passHoursWithGales(n);
            number = tried.number;
            if (tried.gain[croft] >= bound) {
                reached++;
            }
        }
        return reached;
    }

    public int tried(int what, int i, int n) {
        boolean such = what == NOT_COMING ? isCroft(i) : isIn(what, NO_TIDES, NO_HEAP) && i == 0;
        if (!such || !isIn(n, 0, MOST_HOURS)) {
            return NONE;
        }
        Strand other = steps[0];
        other.copy(now);
        other.tryOut(what, i);
        other.passHours(n);
        return other.allGains() - now.allGains();
    }

    public int undo() {
        if (undos.size <= 0) {
            return NONE;
        }
        undos.takeBack(now);
        return undos.size;
    }

    public int keep() {
        image.copy(now);
        imageKept = true;
        return now.hour;
    }

    public int back() {
        if (!imageKept) {
            return NONE;
        }
        now.copy(image);
        undos.size = 0;
        return now.hour;
    }

    public int count(int what) {
        switch (what) {
            case 0: return told.stripes;
            case 1: return told.crofts;
            case 2: return told.fields;
            case 3: return told.tides;
            case 4: return told.laws.size;
            case 5: return now.hour;
            case 6: return now.allLying();
            case 7: return now.heap;
            case 8: return now.sea;
            case 9: return now.allGot();
            case 10: return now.allGains();
            case 11: return now.rule;
            case 12: return seen.size;
            case 13: return seen.knownSize();
            case 14: return undos.size;
            default: return NONE;
        }
    }

    private boolean isStripe(int stripe) {
        return stripe >= 0 && stripe < told.stripes;
    }

    private boolean isCroft(int croft) {
        return croft >= 0 && croft < told.crofts;
    }

    private boolean isField(int field) {
        return field >= 0 && field < told.fields;
    }

    private static boolean isRule(int rule) {
        return rule >= FREE && rule <= SAVED;
    }

    private static boolean isIn(int number, int least, int most) {
        return number >= least && number <= most;
    }

    private static int power(int base, int exponent) {
        int product = 1;
        for (int i = 0; i < exponent; i++) {
            product *= base;
        }
        return product;
    }

    private static int commonDivisor(int one, int other) {
        int a = one;
        int b = other;
        // Euclid's steps on ints are fewer than 50
        for (int i = 0; i < 64 && b != 0; i++) {
            int left = a % b;
            a = b;
            b = left;
        }
        return a;
    }

    /** The most less the least of the first n; 0 without any. */
    private static int spread(int[] amounts, int n) {
        int least = Integer.MAX_VALUE;
        int most = Integer.MIN_VALUE;
        for (int i = 0; i < n && i < amounts.length; i++) {
            least = Math.min(least, amounts[i]);
            most = Math.max(most, amounts[i]);
        }
        return n > 0 ? most - least : 0;
    }

    /** The bytes fed, and the tokens that they are. */
    private static final class Tokens {
        static final int END = 0;
        static final int BAD = 1;
        static final int NUMBER = 2;
        static final int NAME = 3;
        static final int AT_MOST = 4;
        static final int OTHER_THAN = 5;
        static final int AT_LEAST = 6;

        // a sign of one character is its own kind; words stand above all characters
        static final int FIRST_WORD = 256;
        static final int STRIPE = 256;
        static final int CROFT = 257;
        static final int FIELD = 258;
        static final int TIDE = 259;
        static final int HEAP = 260;
        static final int RULE = 261;
        static final int GALE = 262;
        static final int SEED = 263;
        static final int LAW = 264;
        static final int RULE_FREE = 265;
        static final int RULE_SAVED = 267;
        static final int LAW_LOAD = 268;
        static final int LAW_WORTH = 271;
        static final int LIES = 272;
        static final int SORT = 278;
        static final int NOT = 279;
        static final int AND = 280;
        static final int OR = 281;

        private static final int LETTERS = 6;
        private static final int LETTER_BITS = 5;
        private static final int FIRST_SHIFT = 25;
        private static final int WORDS = 26;
        // in the order of the kinds above
        private static final String SPELLED =
            "stripe croft field tide heap rule gale seed law free lots saved load fork ebb worth lies carts hill hour got wants sort not and or";
        // far above any number that a text may tell, and far from what an int can't hold
        private static final int HUGE = 1000000;

        final int[] bytes = new int[MOST_BYTES];
        final int[] spellings = new int[WORDS];
        int held;
        int length;
        int place;
        int at;
        int kind;
        int number;
        int letters;

        Tokens() {
            int word = 0;
            int shift = FIRST_SHIFT;
            for (int i = 0; i < SPELLED.length() && word < WORDS; i++) {
                char letter = SPELLED.charAt(i);
                if (letter == ' ') {
                    word++;
                    shift = FIRST_SHIFT;
                } else {
                    spellings[word] |= letter - 'a' + 1 << shift;
                    shift -= LETTER_BITS;
                }
            }
        }

        void append(int four) {
            for (int shift = 24; shift >= 0 && held < bytes.length; shift -= 8) {
                bytes[held] = four >>> shift & 255;
                held++;
            }
        }

        void begin(int n) {
            length = Math.min(n, bytes.length);
            place = 0;
            advance();
        }

        void advance() {
            while (place < length && (bytes[place] == ' ' || bytes[place] == 10)) {
                place++;
            }
            at = place;
            if (place >= length) {
                kind = END;
            } else if (isLetter(bytes[place])) {
                readWord();
            } else if (isDigit(bytes[place])) {
                readNumber();
            } else {
                readSign(bytes[place]);
            }
        }

        private void readWord() {
            letters = 0;
            int shift = FIRST_SHIFT;
            while (place < length && isLetter(bytes[place])) {
                if (shift >= 0) {
                    letters |= bytes[place] - 'a' + 1 << shift;
                }
                shift -= LETTER_BITS;
                place++;
            }
            if (place - at > LETTERS) {
                kind = BAD;
                return;
            }
            kind = NAME;
            for (int w = 0; w < WORDS; w++) {
                if (spellings[w] == letters) {
                    kind = FIRST_WORD + w;
                }
            }
        }

        private void readNumber() {
            number = 0;
            while (place < length && isDigit(bytes[place])) {
                number = Math.min(number * 10 + bytes[place] - '0', HUGE);
                place++;
            }
            kind = NUMBER;
        }

        private void readSign(int sign) {
            place++;
            int behind = place < length ? bytes[place] : 0;
            if (sign == '<' && behind == '=') {
                kind = AT_MOST;
                place++;
            } else if (sign == '<' && behind == '>') {
                kind = OTHER_THAN;
                place++;
            } else if (sign == '>' && behind == '=') {
                kind = AT_LEAST;
                place++;
            } else {
                kind = isSign(sign) ? sign : BAD;
            }
        }

        private static boolean isLetter(int sign) {
            return sign >= 'a' && sign <= 'z';
        }

        private static boolean isDigit(int sign) {
            return sign >= '0' && sign <= '9';
        }

        private static boolean isSign(int sign) {
            switch (sign) {
                case ';': case '(': case ')': case '<': case '=': case '>':
                case '+': case '-': case '*': case '/':
                    return true;
                default:
                    return false;
            }
        }
    }

    /** Reads a text into what it tells, up to its first fault. */
    private static final class Reader {
        static final int UNFIT = 1;
        static final int TOO_MUCH = 2;
        static final int TOLD_ALREADY = 3;
        static final int NOT_TOLD = 4;

        private static final int MOST_OPEN = 8;
        private static final int MOST_NUMBER = 9999;

        // how strongly signs bind: the higher, the earlier
        private static final int BINDS_OR = 1;
        private static final int BINDS_AND = 2;
        private static final int BINDS_NOT = 3;
        private static final int BINDS_COMPARING = 4;
        private static final int BINDS_ADDING = 5;
        private static final int BINDS_TIMES = 6;

        final int[] waiting = new int[Laws.MOST_KNOTS + MOST_OPEN];
        final boolean[] compared = new boolean[MOST_OPEN + 1];
        Tokens tokens;
        Told told;
        int fault;
        int faultPlace;
        int taken;
        int onceTold;
        int waits;
        int open;
        int knots;
        boolean operandDue;
        boolean notMayStand;

        boolean reads(Tokens from, int length, Told into) {
            tokens = from;
            told = into;
            told.clear();
            fault = 0;
            faultPlace = NONE;
            onceTold = 0;
            knots = 0;
            tokens.begin(length);
            for (int i = 0; i < MOST_BYTES && tokens.kind != Tokens.END; i++) {
                if (!readLine() || !takeSemicolon()) {
                    return false;
                }
                told.lines++;
            }
            return true;
        }

        private boolean readLine() {
            switch (tokens.kind) {
                case Tokens.STRIPE: return readStripe();
                case Tokens.CROFT: return readCroft();
                case Tokens.FIELD: return readField();
                case Tokens.TIDE: return readTide();
                case Tokens.HEAP: return readHeap();
                case Tokens.RULE: return readRule();
                case Tokens.GALE: return readGale();
                case Tokens.SEED: return readSeed();
                case Tokens.LAW: return readLaw();
                default: return fails(UNFIT);
            }
        }

        private boolean fails(int kind) {
            fault = kind;
            faultPlace = tokens.at;
            return false;
        }

        private boolean takeSemicolon() {
            if (tokens.kind != ';') {
                return fails(UNFIT);
            }
            tokens.advance();
            return true;
        }

        private boolean takeNumber(int most) {
            if (tokens.kind != Tokens.NUMBER) {
                return fails(UNFIT);
            }
            if (tokens.number > most) {
                return fails(TOO_MUCH);
            }
            taken = tokens.number;
            tokens.advance();
            return true;
        }

        /** Passes the word of a line that may be told once. */
        private boolean takeOnce() {
            int bit = 1 << tokens.kind - Tokens.FIRST_WORD;
            if ((onceTold & bit) != 0) {
                return fails(TOLD_ALREADY);
            }
            onceTold |= bit;
            tokens.advance();
            return true;
        }

        private boolean readStripe() {
            if (told.stripes >= MOST_STRIPES) {
                return fails(TOO_MUCH);
            }
            tokens.advance();
            if (!takeNumber(999)) {
                return false;
            }
            told.lies[told.stripes] = taken;
            told.stripes++;
            return true;
        }

        private boolean readCroft() {
            int croft = told.crofts;
            if (croft >= MOST_CROFTS) {
                return fails(TOO_MUCH);
            }
            tokens.advance();
            if (tokens.kind != Tokens.NAME) {
                return fails(UNFIT);
            }
            if (told.croftNamed(tokens.letters) != NONE) {
                return fails(TOLD_ALREADY);
            }
            told.names[croft] = tokens.letters;
            tokens.advance();
            if (!takeNumber(MOST_CARTS)) {
                return false;
            }
            told.carts[croft] = taken;
            if (!takeNumber(9)) {
                return false;
            }
            told.hill[croft] = taken;
            if (!takeNumber(99)) {
                return false;
            }
            told.come[croft] = taken;
            told.crofts++;
            return true;
        }

        private boolean readField() {
            int field = told.fields;
            if (field >= MOST_FIELDS) {
                return fails(TOO_MUCH);
            }
            tokens.advance();
            if (tokens.kind != Tokens.NAME) {
                return fails(UNFIT);
            }
            int croft = told.croftNamed(tokens.letters);
            if (croft == NONE) {
                return fails(NOT_TOLD);
            }
            told.fieldCroft[field] = croft;
            tokens.advance();
            if (!takeNumber(99)) {
                return false;
            }
            told.wants[field] = taken;
            if (!takeNumber(9)) {
                return false;
            }
            told.sort[field] = taken;
            told.fields++;
            return true;
        }

        private boolean readTide() {
            if (told.tides >= MOST_TIDES) {
                return fails(TOO_MUCH);
            }
            tokens.advance();
            if (tokens.kind == Tokens.NUMBER && told.hasTide(tokens.number)) {
                return fails(TOLD_ALREADY);
            }
            if (!takeNumber(DAY - 1)) {
                return false;
            }
            told.tide[told.tides] = taken;
            told.tides++;
            return true;
        }

        private boolean readHeap() {
            if (!takeOnce() || !takeNumber(999)) {
                return false;
            }
            told.heap = taken;
            return true;
        }

        private boolean readRule() {
            if (!takeOnce()) {
                return false;
            }
            if (tokens.kind < Tokens.RULE_FREE || tokens.kind > Tokens.RULE_SAVED) {
                return fails(UNFIT);
            }
            told.rule = tokens.kind - Tokens.RULE_FREE;
            tokens.advance();
            return true;
        }

        private boolean readGale() {
            if (!takeOnce() || !takeNumber(100)) {
                return false;
            }
            told.odds = taken;
            if (!takeNumber(99)) {
                return false;
            }
            told.tons = taken;
            return true;
        }

        private boolean readSeed() {
            if (!takeOnce() || !takeNumber(99999)) {
                return false;
            }
            told.seed = taken;
            return true;
        }

        private boolean readLaw() {
            tokens.advance();
            int kind = tokens.kind - Tokens.LAW_LOAD;
            if (tokens.kind < Tokens.LAW_LOAD || tokens.kind > Tokens.LAW_WORTH) {
                return fails(UNFIT);
            }
            if (told.laws.isTold(kind)) {
                return fails(TOLD_ALREADY);
            }
            tokens.advance();
            told.laws.begin(kind);
            beginExpression();
            for (int i = 0; i < MOST_BYTES; i++) {
                if (operandDue) {
                    if (!readOperand()) {
                        return false;
                    }
                } else if (joins(tokens.kind)) {
                    if (!readJoin()) {
                        return false;
                    }
                } else if (tokens.kind == ')' && open > 0) {
                    closeParenthesis();
                } else {
                    break;
                }
            }
            if (open > 0) {
                return fails(UNFIT);
            }
            putWaiting(BINDS_OR);
            told.laws.end(kind);
            return true;
        }

        private void beginExpression() {
            waits = 0;
            open = 0;
            compared[0] = false;
            operandDue = true;
            notMayStand = true;
        }

        private boolean readOperand() {
            int kind = tokens.kind;
            boolean isNumber = kind == Tokens.NUMBER;
            if (isNumber || kind >= Tokens.LIES && kind <= Tokens.SORT) {
                if (isNumber && tokens.number > MOST_NUMBER || knots >= Laws.MOST_KNOTS) {
                    return fails(TOO_MUCH);
                }
                knots++;
                told.laws.put(kind, tokens.number);
                operandDue = false;
            } else if (kind == '(') {
                if (open >= MOST_OPEN) {
                    return fails(TOO_MUCH);
                }
                push(kind);
                open++;
                compared[open] = false;
                notMayStand = true;
            } else if (kind == Tokens.NOT && notMayStand) {
                if (knots >= Laws.MOST_KNOTS) {
                    return fails(TOO_MUCH);
                }
                knots++;
                push(kind);
            } else {
                return fails(UNFIT);
            }
            tokens.advance();
            return true;
        }

        private boolean readJoin() {
            int binding = bindingOf(tokens.kind);
            // one comparison at most between two of and, or and the parentheses
            if (binding == BINDS_COMPARING && compared[open]) {
                return fails(UNFIT);
            }
            if (knots >= Laws.MOST_KNOTS) {
                return fails(TOO_MUCH);
            }
            knots++;
            if (binding == BINDS_COMPARING) {
                compared[open] = true;
            } else if (binding <= BINDS_AND) {
                compared[open] = false;
            }
            putWaiting(binding);
            push(tokens.kind);
            operandDue = true;
            notMayStand = binding <= BINDS_AND;
            tokens.advance();
            return true;
        }

        private void closeParenthesis() {
            putWaiting(BINDS_OR);
            if (waits > 0) {
                waits--;
            }
            open--;
            tokens.advance();
        }

        private void push(int kind) {
            if (waits < waiting.length) {
                waiting[waits] = kind;
                waits++;
            }
        }

        /** Puts what waits back to a '(' and binds at least so strongly. */
        private void putWaiting(int binding) {
            while (waits > 0 && bindingOf(waiting[waits - 1]) >= binding) {
                waits--;
                told.laws.put(waiting[waits], 0);
            }
        }

        private static boolean joins(int kind) {
            return kind != Tokens.NOT && bindingOf(kind) > 0;
        }

        private static int bindingOf(int kind) {
            switch (kind) {
                case Tokens.OR: return BINDS_OR;
                case Tokens.AND: return BINDS_AND;
                case Tokens.NOT: return BINDS_NOT;
                case '<': case '=': case '>':
                case Tokens.AT_MOST: case Tokens.OTHER_THAN: case Tokens.AT_LEAST:
                    return BINDS_COMPARING;
                case '+': case '-': return BINDS_ADDING;
                case '*': case '/': return BINDS_TIMES;
                default: return 0;
            }
        }
    }

    /** The laws, each a run of knots in the order in which they are worked out, signs behind what they join. */
    private static final class Laws {
        static final long ERROR = Long.MIN_VALUE;
        static final int MOST_KNOTS = 64;
        static final int NAMES = 7;
        private static final int KINDS = 4;
        private static final long MOST_VALUE = 1000000000000L;

        final int[] knots = new int[MOST_KNOTS];
        final int[] numbers = new int[MOST_KNOTS];
        final int[] from = new int[KINDS];
        final int[] upTo = new int[KINDS];
        // the values of the names, in the order of their kinds, for the law that is worked out next
        final long[] names = new long[NAMES];
        final long[] stack = new long[MOST_KNOTS];
        int size;

        void clear() {
            size = 0;
            for (int kind = 0; kind < KINDS; kind++) {
                from[kind] = 0;
                upTo[kind] = 0;
            }
        }

        boolean isTold(int kind) {
            return kind >= 0 && kind < KINDS && from[kind] < upTo[kind];
        }

        void begin(int kind) {
            if (kind >= 0 && kind < KINDS) {
                from[kind] = size;
            }
        }

        void put(int knot, int number) {
            if (size < MOST_KNOTS) {
                knots[size] = knot;
                numbers[size] = number;
                size++;
            }
        }

        void end(int kind) {
            if (kind >= 0 && kind < KINDS) {
                upTo[kind] = size;
            }
        }

        /** ERROR for a law that isn't told, too. */
        long value(int kind) {
            if (!isTold(kind)) {
                return ERROR;
            }
            int top = 0;
            for (int i = from[kind]; i < upTo[kind]; i++) {
                int knot = knots[i];
                long made;
                if (knot == Tokens.NUMBER) {
                    made = numbers[i];
                } else if (knot >= Tokens.LIES && knot <= Tokens.SORT) {
                    made = names[knot - Tokens.LIES];
                } else if (knot == Tokens.NOT && top >= 1) {
                    top--;
                    made = stack[top] == 0 ? 1 : 0;
                } else if (top >= 2) {
                    top -= 2;
                    made = joined(knot, stack[top], stack[top + 1]);
                } else {
                    return ERROR;
                }
                if (made > MOST_VALUE || made < -MOST_VALUE) {
                    return ERROR;
                }
                stack[top] = made;
                top++;
            }
            return top == 1 ? stack[0] : ERROR;
        }

        private static long joined(int sign, long a, long b) {
            switch (sign) {
                case '+': return a + b;
                case '-': return a - b;
                case '*': {
                    // a long might not hold a product beyond all values
                    long x = a < 0 ? -a : a;
                    long y = b < 0 ? -b : b;
                    return x != 0 && y > MOST_VALUE / x ? ERROR : a * b;
                }
                case '/': return b == 0 ? ERROR : a / b;
                case '<': return a < b ? 1 : 0;
                case '=': return a == b ? 1 : 0;
                case '>': return a > b ? 1 : 0;
                case Tokens.AT_MOST: return a <= b ? 1 : 0;
                case Tokens.OTHER_THAN: return a != b ? 1 : 0;
                case Tokens.AT_LEAST: return a >= b ? 1 : 0;
                case Tokens.AND: return a != 0 && b != 0 ? 1 : 0;
                case Tokens.OR: return a != 0 || b != 0 ? 1 : 0;
                default: return ERROR;
            }
        }
    }

    /** What a text tells. */
    private static final class Told {
        final int[] lies = new int[MOST_STRIPES];
        final int[] names = new int[MOST_CROFTS];
        final int[] carts = new int[MOST_CROFTS];
        final int[] hill = new int[MOST_CROFTS];
        final int[] come = new int[MOST_CROFTS];
        final int[] fieldCroft = new int[MOST_FIELDS];
        final int[] wants = new int[MOST_FIELDS];
        final int[] sort = new int[MOST_FIELDS];
        final int[] tide = new int[MOST_TIDES];
        final Laws laws = new Laws();
        int lines;
        int stripes;
        int crofts;
        int fields;
        int tides;
        int heap;
        int rule;
        int odds;
        int tons;
        int seed;

        void clear() {
            laws.clear();
            lines = 0;
            stripes = 0;
            crofts = 0;
            fields = 0;
            tides = 0;
            heap = 0;
            rule = FREE;
            odds = 0;
            tons = 0;
            seed = 0;
        }

        int croftNamed(int letters) {
            for (int c = 0; c < crofts; c++) {
                if (names[c] == letters) {
                    return c;
                }
            }
            return NONE;
        }

        boolean hasTide(int hourOfDay) {
            for (int i = 0; i < tides; i++) {
                if (tide[i] == hourOfDay) {
                    return true;
                }
            }
            return false;
        }
    }

    /** A strand at one hour: the real one, the image, or one that is tried. */
    private static final class Strand {
        private static final int MOST_LOAD = 99;
        private static final int MOST_WORTH = 99;
        private static final int PLAIN_FORK = 8;
        private static final int CART_HOLDS = 5;
        private static final int NEVER = Integer.MAX_VALUE;

        final int[] lies = new int[MOST_STRIPES];
        final int[] lot = new int[MOST_STRIPES];
        final int[] carts = new int[MOST_CROFTS];
        final int[] hill = new int[MOST_CROFTS];
        final int[] come = new int[MOST_CROFTS];
        final int[] act = new int[MOST_CROFTS];
        final int[] gain = new int[MOST_CROFTS];
        final int[] forked = new int[MOST_CROFTS];
        final int[] onLots = new int[MOST_CROFTS];
        final int[] got = new int[MOST_FIELDS];
        Told told;
        int hour;
        int heap;
        int sea;
        int rule;
        int number;
        boolean tidesCome;

        Strand(Told first) {
            told = first;
            tidesCome = true;
        }

        void begin(Told text) {
            told = text;
            hour = 0;
            heap = text.heap;
            sea = 0;
            rule = text.rule;
            number = text.seed;
            tidesCome = true;
            for (int s = 0; s < MOST_STRIPES; s++) {
                lies[s] = text.lies[s];
                lot[s] = text.crofts > 0 ? s % text.crofts : NONE;
            }
            for (int c = 0; c < MOST_CROFTS; c++) {
                carts[c] = text.carts[c];
                hill[c] = text.hill[c];
                come[c] = text.come[c];
                act[c] = AS_RULED;
                gain[c] = 0;
                forked[c] = 0;
            }
            for (int f = 0; f < MOST_FIELDS; f++) {
                got[f] = 0;
            }
        }

        void copy(Strand from) {
            told = from.told;
            hour = from.hour;
            heap = from.heap;
            sea = from.sea;
            rule = from.rule;
            number = from.number;
            tidesCome = from.tidesCome;
            System.arraycopy(from.lies, 0, lies, 0, MOST_STRIPES);
            System.arraycopy(from.lot, 0, lot, 0, MOST_STRIPES);
            System.arraycopy(from.carts, 0, carts, 0, MOST_CROFTS);
            System.arraycopy(from.hill, 0, hill, 0, MOST_CROFTS);
            System.arraycopy(from.come, 0, come, 0, MOST_CROFTS);
            System.arraycopy(from.act, 0, act, 0, MOST_CROFTS);
            System.arraycopy(from.gain, 0, gain, 0, MOST_CROFTS);
            System.arraycopy(from.forked, 0, forked, 0, MOST_CROFTS);
            System.arraycopy(from.got, 0, got, 0, MOST_FIELDS);
        }

        void passHours(int n) {
            for (int i = 0; i < n; i++) {
                passHour();
            }
        }

        void passHoursWithGales(int n) {
            for (int i = 0; i < n; i++) {
                if (told.odds > 0 && drawNumber() % 100 < told.odds) {
                    blow();
                }
                passHour();
            }
        }

        private int drawNumber() {
            number = (int) (number * 1103515245L + 12345L & Integer.MAX_VALUE);
            return number / 65536;
        }

        private void blow() {
            for (int s = 0; s < told.stripes; s++) {
                lies[s] = Math.min(lies[s] + told.tons, MOST_LYING);
            }
        }

        void passHour() {
            for (int c = 0; c < told.crofts; c++) {
                if (come[c] <= hour) {
                    int does = act[c] == AS_RULED ? ruledAct() : act[c];
                    if (does == CARTS) {
                        cart(c);
                    } else if (does == FORKS) {
                        fork(c);
                    }
                }
            }
            if (tidesCome && told.hasTide(hour % DAY)) {
                ebb();
            }
            hour++;
        }

        private int ruledAct() {
            return rule == SAVED && allLying() > 0 ? FORKS : CARTS;
        }

        private void cart(int croft) {
            int from = sourceOf(croft, false);
            if (from == NO_SOURCE) {
                return;
            }
            int into = NONE;
            int worth = NONE;
            for (int f = 0; f < told.fields; f++) {
                if (told.fieldCroft[f] == croft) {
                    int other = worthOf(f);
                    if (other > worth) {
                        worth = other;
                        into = f;
                    }
                }
            }
            if (into == NONE) {
                return;
            }
            int there = from == ON_HEAP ? heap : lies[from];
            int load = loadOf(croft, there);
            if (from == ON_HEAP) {
                heap -= load;
            } else {
                lies[from] -= load;
            }
            got[into] += load;
            gain[croft] += worth * load;
        }

        private int loadOf(int croft, int there) {
            namePlace(there, croft);
            long load = told.laws.value(LOAD);
            if (load == Laws.ERROR) {
                load = CART_HOLDS * carts[croft] - hill[croft];
            }
            return Math.min(putWithin(load, MOST_LOAD), there);
        }

        private void fork(int croft) {
            int from = sourceOf(croft, true);
            if (from < 0) {
                return;
            }
            namePlace(lies[from], croft);
            long law = told.laws.value(FORK);
            int most = law == Laws.ERROR ? PLAIN_FORK : putWithin(law, MOST_LOAD);
            int tons = Math.min(most, lies[from]);
            lies[from] -= tons;
            heap += tons;
            forked[croft] += tons;
        }

        private void ebb() {
            for (int s = 0; s < told.stripes; s++) {
                namePlace(lies[s], NONE);
                long law = told.laws.value(EBB);
                int gone = law == Laws.ERROR ? lies[s] / 2 : putWithin(law, lies[s]);
                lies[s] -= gone;
                sea += gone;
            }
        }

        int sourceOf(int croft, boolean toFork) {
            boolean heapServes = heap > 0 && !toFork;
            if (rule == SAVED && heapServes) {
                return ON_HEAP;
            }
            int found = NO_SOURCE;
            int most = 0;
            for (int s = 0; s < told.stripes; s++) {
                if (lies[s] > most && (rule != LOTS || lot[s] == croft)) {
                    most = lies[s];
                    found = s;
                }
            }
            return found == NO_SOURCE && heapServes ? ON_HEAP : found;
        }

        int worthOf(int field) {
            nameField(field);
            long law = told.laws.value(WORTH);
            return putWithin(law == Laws.ERROR ? told.wants[field] - got[field] : law, MOST_WORTH);
        }

        /** Gives the names their values for the worth of a field. */
        void nameField(int field) {
            int croft = told.fieldCroft[field];
            long[] names = told.laws.names;
            names[0] = 0;
            names[1] = carts[croft];
            names[2] = hill[croft];
            names[3] = hour % DAY;
            names[4] = got[field];
            names[5] = told.wants[field];
            names[6] = told.sort[field];
        }

        /** Gives the names their values for any other law, where so much lies, for a croft or none. */
        void namePlace(int lying, int croft) {
            long[] names = told.laws.names;
            names[0] = lying;
            names[1] = croft == NONE ? 0 : carts[croft];
            names[2] = croft == NONE ? 0 : hill[croft];
            names[3] = hour % DAY;
            names[4] = 0;
            names[5] = 0;
            names[6] = 0;
        }

        private static int putWithin(long value, int most) {
            return (int) (value < 0 ? 0 : value > most ? most : value);
        }

        int liesOnLots(int croft) {
            int sum = 0;
            for (int s = 0; s < told.stripes; s++) {
                if (lot[s] == croft) {
                    sum += lies[s];
                }
            }
            return sum;
        }

        int unlikeLots() {
            for (int c = 0; c < told.crofts; c++) {
                onLots[c] = liesOnLots(c);
            }
            return spread(onLots, told.crofts);
        }

        void moveCart(int from, int to) {
            carts[from]--;
            carts[to]++;
        }

        void letForkAlone(int croft) {
            for (int c = 0; c < told.crofts; c++) {
                act[c] = c == croft ? FORKS : RESTS;
            }
        }

        void tryOut(int what, int croft) {
            if (what == NO_TIDES) {
                tidesCome = false;
            } else if (what == NOT_COMING) {
                come[croft] = NEVER;
            } else if (what == NO_HEAP) {
                heap = 0;
            }
            for (int c = 0; c < told.crofts; c++) {
                carts[c] += what == CART_MORE ? 1 : 0;
                hill[c] = what == NO_HILL ? 0 : hill[c];
            }
        }

        int allLying() {
            return sum(lies, told.stripes);
        }

        int allGot() {
            return sum(got, told.fields);
        }

        int allGains() {
            return sum(gain, told.crofts);
        }

        private static int sum(int[] amounts, int n) {
            int sum = 0;
            for (int i = 0; i < n && i < amounts.length; i++) {
                sum += amounts[i];
            }
            return sum;
        }
    }

    /** What was seen, strikes among it. */
    private static final class Seen {
        static final int ALL = -1;
        static final int AT_LEAST = 0;
        static final int LESS = 1;
        static final int STRIKE = 2;

        final int[] kind = new int[MOST_SEEN];
        final int[] hours = new int[MOST_SEEN];
        // tons; of a strike, which one it strikes
        final int[] number = new int[MOST_SEEN];
        final boolean[] struck = new boolean[MOST_SEEN];
        int size;
        int known = ALL;

        void clear() {
            size = 0;
            known = ALL;
        }

        int add(int newKind, int newHours, int newNumber) {
            if (size >= MOST_SEEN) {
                return NONE;
            }
            kind[size] = newKind;
            hours[size] = newHours;
            number[size] = newNumber;
            size++;
            return size - 1;
        }

        int knownSize() {
            return known == ALL ? size : known;
        }

        /** Finds which of the known ones are struck; a strike can be struck only by a later one. */
        void sift() {
            for (int i = 0; i < MOST_SEEN; i++) {
                struck[i] = false;
            }
            for (int i = knownSize() - 1; i >= 0; i--) {
                if (kind[i] == STRIKE && !struck[i]) {
                    struck[number[i]] = true;
                }
            }
        }

        private boolean counts(int i) {
            return kind[i] != STRIKE && !struck[i];
        }

        int lastHour() {
            int last = 0;
            for (int i = 0; i < knownSize(); i++) {
                if (counts(i)) {
                    last = Math.max(last, hours[i]);
                }
            }
            return last;
        }

        boolean agrees(int hour, int heap) {
            for (int i = 0; i < knownSize(); i++) {
                if (counts(i) && hours[i] == hour && (heap >= number[i]) != (kind[i] == AT_LEAST)) {
                    return false;
                }
            }
            return true;
        }
    }

    /** What was changed by call since the last hour, the latest last. */
    private static final class Undos {
        static final int ACT = 0;
        static final int RULE = 1;
        static final int LOT = 2;
        static final int CART = 3;

        final int[] kind = new int[MOST_UNDONE];
        final int[] which = new int[MOST_UNDONE];
        // what it was ahead; of a cart, to whom it went
        final int[] was = new int[MOST_UNDONE];
        int size;

        void add(int newKind, int newWhich, int newWas) {
            if (size >= MOST_UNDONE) {
                System.arraycopy(kind, 1, kind, 0, MOST_UNDONE - 1);
                System.arraycopy(which, 1, which, 0, MOST_UNDONE - 1);
                System.arraycopy(was, 1, was, 0, MOST_UNDONE - 1);
                size = MOST_UNDONE - 1;
            }
            kind[size] = newKind;
            which[size] = newWhich;
            was[size] = newWas;
            size++;
        }

        void takeBack(Strand strand) {
            size--;
            int what = which[size];
            switch (kind[size]) {
                case ACT:
                    strand.act[what] = was[size];
                    break;
                case RULE:
                    strand.rule = was[size];
                    break;
                case LOT:
                    strand.lot[what] = was[size];
                    break;
                default:
                    strand.moveCart(was[size], what);
                    break;
            }
        }
    }
}
