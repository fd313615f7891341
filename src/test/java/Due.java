/** Counts the answers that are not as due, tells them, and ends the test. */
final class Due {
    static final int BEYOND = -1000001;
    static final int FULL = -1000002;
    static final int KIND = -1000003;
    static final int NONE = -1000004;
    static final int STATE = -1000005;
    static final int MISSING = -1000006;
    static final int SIZE = -1000007;

    private final String test;
    private int asked = 0;
    private int wrong = 0;

    Due(String test) {
        this.test = test;
    }

    void due(String call, long got, long want) {
        asked++;
        if (got != want) {
            wrong++;
            if (wrong <= 50) {
                System.out.println(test + ": " + call + " answered " + got + ", due is " + want);
            }
        }
    }

    /** Exit code 1 if an answer was wrong, or none was asked for. */
    void end() {
        System.out.println(test + ": " + asked + " answers, " + wrong + " wrong");
        if (wrong != 0 || asked == 0) {
            System.exit(1);
        }
    }

    /** A new object with busts of these kinds and of dates 10, 20, .. */
    static BustRest withKinds(int... kinds) {
        BustRest x = new BustRest();
        for (int i = 0; i < kinds.length; i++) {
            x.bust(kinds[i], 10 * (i + 1));
        }
        return x;
    }

    /** Puts a text behind what the tape has. */
    static void feed(BustRest x, String text) {
        for (int i = 0; i < text.length(); i += 4) {
            int n = Math.min(4, text.length() - i);
            int bytes = 0;
            for (int k = 0; k < n; k++) {
                bytes = bytes << 8 | text.charAt(i + k);
            }
            x.feed(bytes, n);
        }
    }

    /** What text() answers to a text. */
    static int read(BustRest x, String text) {
        feed(x, text);
        return x.text();
    }

    /** A sheet with these numbers. */
    static void numbers(BustRest x, int s, int bits, int... numbers) {
        x.sheet(s, bits, numbers.length);
        for (int i = 0; i < numbers.length; i++) {
            x.write(s, i, numbers[i]);
        }
    }

    /** A set, told by its members. */
    static int set(int... members) {
        int set = 0;
        for (int m : members) {
            set |= 1 << m;
        }
        return set;
    }
}
