import java.util.Arrays;

/**
 * Every argument of every call, by itself: each number from well below its range to well above it, and the ends of
 * int; within the range the call doesn't answer BEYOND, outside it does.
 */
public final class RangesTest {
    private static final Due DUE = new Due("RangesTest");
    private static final int[] FAR = {Integer.MIN_VALUE, Integer.MIN_VALUE + 1, -1000001, -65536, -256, 255, 256, 65535,
        65536, 1 << 30, Integer.MAX_VALUE - 1, Integer.MAX_VALUE};
    /** An object is asked so often, by two calls at most: it is used for 512 calls only. */
    private static final int ASKED = 200;

    private static int busts = 8;
    private static BustRest object;
    private static int askedOfObject;

    private interface Act {
        long on(BustRest x, int v);
    }

    private static void anew() {
        object = Due.withKinds(Arrays.copyOf(new int[] {0, 1, 2, 3, 4, 5, 6, 0}, busts));
        for (int s = 0; s < 4; s++) {
            object.sheet(s, 8, 40);
        }
        askedOfObject = 0;
    }

    private static void asked(String call, int v, boolean within, Act act) {
        if (askedOfObject == ASKED) {
            anew();
        }
        askedOfObject++;
        long got = act.on(object, v);
        DUE.due(call + " with " + v + " is BEYOND", got == Due.BEYOND ? 1 : 0, within ? 0 : 1);
    }

    private static void range(String call, int low, int high, Act act) {
        anew();
        for (int v = low - 20; v <= high + 20; v++) {
            asked(call, v, v >= low && v <= high, act);
        }
        for (int v : FAR) {
            asked(call, v, v >= low && v <= high, act);
        }
    }

    private static void these(String call, int[] good, Act act) {
        anew();
        for (int v = -70; v < 140; v++) {
            int asked = v;
            asked(call, v, Arrays.stream(good).anyMatch(g -> g == asked), act);
        }
        for (int v : FAR) {
            asked(call, v, false, act);
        }
    }

    private static void libraryAndBusts() {
        range("bequest: i", 0, 5, (x, v) -> x.bequest(v, 3));
        range("bequest: part", 0, 12, (x, v) -> x.bequest(2, v));
        range("listed: i", 0, 5, (x, v) -> x.listed(v));
        range("stored: part", 0, 11, (x, v) -> x.stored(v));
        range("bust: kind", 0, 6, (x, v) -> new BustRest().bust(v, 5));
        range("bust: date", 0, 999, (x, v) -> new BustRest().bust(5, v));
        range("of: bust", 0, 7, (x, v) -> x.of(v, 1));
        range("of: what", 0, 10, (x, v) -> x.of(2, v));
        range("change: bust", 0, 7, (x, v) -> x.change(v, 4, 3));
        range("change: what", 0, 6, (x, v) -> x.change(3, v, 1));
        int[] most = {6, 999, 4095, 15, 99, 1, 1};
        for (int w = 0; w < 7; w++) {
            int what = w;
            range("change: v of " + what, 0, most[what], (x, v) -> x.change(1, what, v));
        }
        range("accepts: bust", 0, 7, (x, v) -> x.accepts(v, 2));
        range("accepts: part", 0, 11, (x, v) -> x.accepts(1, v));
        range("heir: part", 0, 11, (x, v) -> x.heir(v));
        range("give: bust", 0, 7, (x, v) -> x.give(v, 2));
        range("give: part", 0, 11, (x, v) -> x.give(1, v));
    }

    private static void daysAndWhatWillBe() {
        range("go: n", 1, 60, (x, v) -> x.go(v));
        range("now: what", 0, 7, (x, v) -> x.now(v));
        range("ahead: bust", 0, 7, (x, v) -> x.ahead(v, 2, 3));
        these("ahead: what", new int[] {2, 3, 4, 6, 10}, (x, v) -> x.ahead(1, v, 3));
        range("ahead: n", 0, 100, (x, v) -> x.ahead(1, 2, v));
        range("left: n", 0, 100, (x, v) -> x.left(v));
        range("when: bust", 0, 7, (x, v) -> x.when(v, 0));
        range("when: part", 0, 11, (x, v) -> x.when(0, v));
        range("leaves: bust", 0, 7, (x, v) -> x.leaves(v));
        range("voice: bust", 0, 7, (x, v) -> x.voice(v, 9));
        range("voice: v", 0, 9999, (x, v) -> x.voice(0, v));
    }

    private static void whatToOrder() {
        range("orderFor: i", 0, 5, (x, v) -> x.orderFor(v, 1, 2));
        range("orderFor: bust", 0, 7, (x, v) -> x.orderFor(2, v, 2));
        range("orderFor: n", 0, 60, (x, v) -> x.orderFor(2, 1, v));
        range("dateFor: bust", 0, 7, (x, v) -> x.dateFor(v, 1, 2));
        range("dateFor: part", 0, 11, (x, v) -> x.dateFor(1, v, 2));
        range("dateFor: n", 0, 12, (x, v) -> x.dateFor(1, 1, v));
        range("kindFor: bust", 0, 7, (x, v) -> x.kindFor(v, 2));
        range("kindFor: n", 0, 60, (x, v) -> x.kindFor(1, v));
        range("pathTo: bust", 0, 7, (x, v) -> x.pathTo(v, 3));
        range("pathTo: part", 0, 11, (x, v) -> x.pathTo(1, v));
        range("seal: n", 0, 20, (x, v) -> x.seal(v));
        range("fits: s", 0, 3, (x, v) -> x.fits(v, 1));
        range("fits: bust", 0, 7, (x, v) -> x.fits(1, v));
        range("kinds: s", 0, 3, (x, v) -> x.kinds(v, 1));
        range("kinds: bust", 0, 7, (x, v) -> x.kinds(1, v));
    }

    private static void drawsAndTape() {
        range("chance: n", 1, 20, (x, v) -> x.chance(v));
        range("odds: bust", 0, 7, (x, v) -> x.odds(v, 2, 0));
        range("odds: n", 0, 17, (x, v) -> x.odds(1, v, 0));
        range("odds: what", 0, 1, (x, v) -> x.odds(1, 2, v));
        range("feed: n", 1, 4, (x, v) -> new BustRest().feed(7, v));
        for (int v : FAR) {
            DUE.due("feed: any number, " + v, new BustRest().feed(v, 1), 1);
        }
    }

    private static void spotsAndSheets() {
        range("hold: spot", 0, 9, (x, v) -> x.hold(v, 1));
        range("hold: bust", -1, 7, (x, v) -> x.hold(1, v));
        range("as: spot", 0, 9, (x, v) -> x.as(v, 0));
        range("as: kind", 0, 6, (x, v) -> x.as(1, v));
        range("sheet: s", 0, 3, (x, v) -> x.sheet(v, 8, 40));
        these("sheet: bits", new int[] {0, 8, 16, 32}, (x, v) -> x.sheet(0, v, 4));
        for (int bits : new int[] {0, 8, 16, 32}) {
            anew();
            for (int n = -20; n < 60; n++) {
                sizes(bits, n);
            }
            for (int n : FAR) {
                sizes(bits, n);
            }
        }
    }

    private static void sizes(int bits, int n) {
        int had = bits == 0 ? 0 : n;
        int want = n < 0 ? Due.SIZE : n > 40 ? Due.BEYOND : had;
        DUE.due("sheet(0, " + bits + ", " + n + ")", object.sheet(0, bits, n), want);
    }

    private static void numbersOfSheets() {
        range("write: s", 0, 3, (x, v) -> x.write(v, 0, 1));
        range("write: i of 40", 0, 39, (x, v) -> x.write(1, v, 1));
        for (int v : FAR) {
            asked("write: any number", v, true, (x, number) -> x.write(1, 1, number));
        }
        range("copy: s", 0, 3, (x, v) -> x.copy(v, 0, 1, 0, 1));
        range("copy: t", 0, 3, (x, v) -> x.copy(1, 0, v, 0, 1));
        range("copy: from", 0, 35, (x, v) -> x.copy(0, v, 1, 0, 5));
        range("copy: to", 0, 35, (x, v) -> x.copy(0, 0, 1, v, 5));
        range("copy: n", 0, 40, (x, v) -> x.copy(0, 0, 1, 0, v));
        range("copy: n from 3", 0, 37, (x, v) -> x.copy(0, 3, 1, 0, v));
        range("copy: n to 38", 0, 2, (x, v) -> x.copy(0, 0, 1, 38, v));
        range("load: s", 0, 3, (x, v) -> x.load(v));
        range("judge: s", 0, 3, (x, v) -> x.judge(v));
        for (int s = 0; s < 8; s++) {
            int size = s;
            range("write: i of " + size, 0, size - 1, (x, v) -> x.sheet(2, 16, size) == size ? x.write(2, v, 1) : 0);
        }
    }

    private static void counts() {
        range("count: what", 0, 7, (x, v) -> x.count(v));
        range("status: which", -1, 6, (x, v) -> x.status(v));
    }

    /** With so many busts the first number that is none is BEYOND, in each call that takes one. */
    private static void numbersOfBusts() {
        for (int n = 0; n < 8; n++) {
            busts = n;
            int last = n - 1;
            range("of " + n + ": of", 0, last, (x, v) -> x.of(v, 0));
            range("of " + n + ": change", 0, last, (x, v) -> x.change(v, 0, 0));
            range("of " + n + ": accepts", 0, last, (x, v) -> x.accepts(v, 0));
            range("of " + n + ": give", 0, last, (x, v) -> x.give(v, 0));
            range("of " + n + ": ahead", 0, last, (x, v) -> x.ahead(v, 2, 0));
            range("of " + n + ": when", 0, last, (x, v) -> x.when(v, 0));
            range("of " + n + ": leaves", 0, last, (x, v) -> x.leaves(v));
            range("of " + n + ": voice", 0, last, (x, v) -> x.voice(v, 0));
            range("of " + n + ": orderFor", 0, last, (x, v) -> x.orderFor(0, v, 0));
            range("of " + n + ": dateFor", 0, last, (x, v) -> x.dateFor(v, 0, 0));
            range("of " + n + ": kindFor", 0, last, (x, v) -> x.kindFor(v, 0));
            range("of " + n + ": pathTo", 0, last, (x, v) -> x.pathTo(v, 0));
            range("of " + n + ": fits", 0, last, (x, v) -> x.fits(0, v));
            range("of " + n + ": kinds", 0, last, (x, v) -> x.kinds(0, v));
            range("of " + n + ": odds", 0, last, (x, v) -> x.odds(v, 0, 0));
            range("of " + n + ": hold", -1, last, (x, v) -> x.hold(0, v));
        }
    }

    public static void main(String[] args) {
        libraryAndBusts();
        daysAndWhatWillBe();
        whatToOrder();
        drawsAndTape();
        spotsAndSheets();
        numbersOfSheets();
        counts();
        numbersOfBusts();
        DUE.end();
    }
}
