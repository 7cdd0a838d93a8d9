/** Counts answers that are not the ones due, and makes strands of texts. */
final class Due {
    private final String name;
    private int asked;
    private int wrong;

    Due(String name) {
        this.name = name;
    }

    void is(String call, long got, long want) {
        asked++;
        if (got != want) {
            wrong++;
            System.out.println(name + ": " + call + " answered " + got + ", due is " + want);
        }
    }

    void is(String call, boolean got, boolean want) {
        is(call, got ? 1 : 0, want ? 1 : 0);
    }

    /** The exception that the call throws, by its name; "" for none. */
    void throwing(String call, Runnable body, String want) {
        String got = "";
        try {
            body.run();
        } catch (RuntimeException thrown) {
            got = thrown.getClass().getSimpleName();
        }
        asked++;
        if (!got.equals(want)) {
            wrong++;
            System.out.println(name + ": " + call + " threw " + got + ", due is " + want);
        }
    }

    void end() {
        System.out.println(name + ": " + (asked - wrong) + " of " + asked + " answers are as due");
        if (wrong != 0 || asked == 0) {
            System.exit(1);
        }
    }

    static void feed(WeedStrand x, String text) {
        for (int i = 0; i < text.length(); i += 20) {
            int[] four = new int[5];
            for (int k = 0; k < 20; k++) {
                int sign = i + k < text.length() ? text.charAt(i + k) : ' ';
                four[k / 4] = four[k / 4] << 8 | sign;
            }
            x.feed(four[0], four[1], four[2], four[3], four[4]);
        }
    }

    /** How many of ten times 5 a gale, n hours each, with the numbers from a seed on, are a bound at least, from a gain on. */
    static int drawn(long seed, int odds, int n, int gain, int bound) {
        long number = seed;
        int reached = 0;
        for (int i = 0; i < 10; i++) {
            int then = gain;
            for (int hour = 0; hour < n; hour++) {
                number = number * 1103515245L + 12345L & 0x7fffffffL;
                then += number / 65536 % 100 < odds ? 5 : 0;
            }
            reached += then >= bound ? 1 : 0;
        }
        return reached;
    }

    /** What text() answers for it. */
    static int tell(WeedStrand x, String text) {
        feed(x, text);
        return x.text(text.length());
    }

    static WeedStrand strand(String text) {
        WeedStrand x = new WeedStrand();
        if (tell(x, text) < 0) {
            throw new IllegalArgumentException(text + " has fault " + x.fault(0) + " at " + x.fault(1));
        }
        return x;
    }
}
