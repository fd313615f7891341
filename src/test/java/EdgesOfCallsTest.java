/**
 * The sentences of promises 5 to 22 that name a boundary, promise by promise, where it is more than the range of an
 * argument (RangesTest) or a refused call (RefusedTest): the least and the greatest, the empty and the full.
 */
public final class EdgesOfCallsTest {
    private static final Due DUE = new Due("EdgesOfCallsTest");
    private static final int FEET = 2048;
    private static final int ALL = 4095;

    private static void due(String call, long got, long want) {
        DUE.due(call, got, want);
    }

    /** Promise 5: eight, numbered in a row, and none more; an image with fewer makes room again. */
    private static void eightBusts() {
        BustRest x = new BustRest();
        x.image();
        for (int b = 0; b < 8; b++) {
            due("count(1)", x.count(1), b);
            due("bust " + b, x.bust(6 - b % 7, 999 - b), b);
        }
        due("the ninth", x.bust(0, 0), Due.FULL);
        due("the ninth by a text", Due.read(x, "store 1 1;bust 0"), -1 - 10);
        due("of which nothing is so", x.stored(1), 0);
        due("count(1)", x.count(1), 8);
        x.undo();
        due("count(1) of the image", x.count(1), 0);
        due("the first again", x.bust(0, 0), 0);
    }

    /** Promise 7: gone or not is told, and who was gone before goes on. */
    private static void changes() {
        BustRest x = Due.withKinds(0);
        due("change(0, 6, 1)", x.change(0, 6, 1), 0);
        due("change(0, 6, 1) again", x.change(0, 6, 1), 1);
        due("left", x.now(1), 0);
        due("go(1)", x.go(1), 0);
        due("who is gone doesn't yearn", x.of(0, 4), 0);
        due("change(0, 6, 0)", x.change(0, 6, 0), 1);
        x.go(1);
        due("who isn't does", x.of(0, 4), 3);
    }

    /** Promise 10: the last one of the store, and then there is none. */
    private static void lastOfTheStore() {
        BustRest x = Due.withKinds(2, 2);
        Due.read(x, "store 0 99;store 11 1");
        due("give(0, 11), not accepted", x.give(0, 11), 3 + FEET);
        due("stored(11)", x.stored(11), 0);
        due("give(1, 11)", x.give(1, 11), Due.STATE);
        x.change(0, 2, 0);
        due("give(0, 0)", x.give(0, 0), 1);
        due("stored(0)", x.stored(0), 98);
        due("now(2)", x.now(2), 98);
        x.change(1, 2, ALL - 1);
        due("give(1, 0), the last that it lacks", x.give(1, 0), ALL);
        due("now(3)", x.now(3), 2);
    }

    /** Promise 12: nobody at all, nobody who isn't gone, all. */
    private static void nows() {
        BustRest x = new BustRest();
        int[] nobody = {0, 0, 0, 0, 0, -1, 0, 0};
        for (int what = 0; what < 8; what++) {
            due("of nobody: now(" + what + ")", x.now(what), nobody[what]);
        }
        for (int b = 0; b < 8; b++) {
            x.bust(0, b);
            x.change(b, 2, ALL);
            x.change(b, 4, 99);
        }
        for (int part = 0; part < 12; part++) {
            Due.read(x, "store " + part + " 99");
        }
        int[] all = {0, 0, 12 * 99, 255, 255, 0, 8 * 99, 0};
        for (int what = 0; what < 8; what++) {
            due("of all: now(" + what + ")", x.now(what), all[what]);
        }
        due("count(3)", x.count(3), 12 * 99);
        for (int b = 0; b < 8; b++) {
            x.change(b, 6, 1);
        }
        int[] gone = {0, 0, 12 * 99, 0, 0, -1, 0, 255};
        for (int what = 0; what < 8; what++) {
            due("of gone: now(" + what + ")", x.now(what), gone[what]);
        }
        due("count(4)", x.count(4), 8);
    }

    /** Promises 13 to 17: behind no day, and behind the last that may be asked for. */
    private static void whatWillBe() {
        BustRest x = Due.withKinds(5, 2);
        x.change(0, 2, FEET);
        x.change(1, 1, 0);
        x.change(1, 3, 7);
        x.change(1, 4, 5);
        int[] whats = {2, 3, 4, 6, 10};
        for (int what : whats) {
            due("ahead(1, " + what + ", 0)", x.ahead(1, what, 0), x.of(1, what));
        }
        due("ahead(0, 4, 98)", x.ahead(0, 4, 98), 98);
        due("ahead(0, 3, 98)", x.ahead(0, 3, 98), 0);
        due("ahead(0, 3, 99)", x.ahead(0, 3, 99), 5);
        due("ahead(0, 3, 100)", x.ahead(0, 3, 100), 10);
        due("ahead(0, 6, 100)", x.ahead(0, 6, 100), 0);
        due("left(100)", x.left(100), 0);
        due("leaves(0)", x.leaves(0), 101);
        x.change(0, 4, 1);
        due("left(99)", x.left(99), 0);
        due("left(100)", x.left(100), 1);
        due("ahead(0, 6, 100)", x.ahead(0, 6, 100), 1);
        due("leaves(0)", x.leaves(0), 100);
        due("voice(1, 15)", x.voice(1, 15), 0);
        due("voice(1, 16)", x.voice(1, 16), Due.NONE);
        x.bequest(5, 2);
        due("when(1, 2)", x.when(1, 2), 6);
        due("when(1, 1)", x.when(1, 1), 0);
        due("voice(1, 16)", x.voice(1, 16), Due.NONE);
        x.bequest(0, 2);
        due("voice(1, 22)", x.voice(1, 22), 1);
        due("voice(1, 23)", x.voice(1, 23), Due.NONE);
    }

    /** Promise 15: the longest row of days, for the last of eight busts, with a list that runs backwards. */
    private static void longestRow() {
        BustRest x = Due.withKinds(0, 0, 0, 0, 0, 0, 0, 0);
        for (int i = 0; i < 6; i++) {
            x.bequest(i, 7 - i);
        }
        for (int b = 0; b < 8; b++) {
            for (int part = 2; part < 8; part++) {
                due("when(" + b + ", " + part + ")", x.when(b, part), 6 + 6 * b + 5 * (part - 2));
            }
            due("when(" + b + ", 8)", x.when(b, 8), Due.NONE);
        }
        due("status(3)", x.status(3), 8);
    }

    /** Promises 18 to 20: behind no day, and behind the last that may be asked for. */
    private static void orders() {
        BustRest x = Due.withKinds(0, 0, 0, 0, 0, 0, 0, 0);
        due("orderFor(5, 0, 5)", x.orderFor(5, 0, 5), 0);
        due("orderFor(5, 0, 6)", x.orderFor(5, 0, 6), 2);
        due("orderFor(5, 7, 47)", x.orderFor(5, 7, 47), 0);
        due("orderFor(5, 7, 48)", x.orderFor(5, 7, 48), 2);
        for (int i = 0; i < 5; i++) {
            x.bequest(i, 7 - i);
        }
        due("orderFor(5, 7, 60)", x.orderFor(5, 7, 60), 2);
        BustRest y = Due.withKinds(0, 0);
        y.change(1, 1, 999);
        y.bequest(5, 2);
        due("dateFor(0, 2, 5)", y.dateFor(0, 2, 5), Due.NONE);
        due("dateFor(0, 2, 6)", y.dateFor(0, 2, 6), 999);
        due("dateFor(1, 2, 6)", y.dateFor(1, 2, 6), 9);
        due("dateFor(1, 2, 11)", y.dateFor(1, 2, 11), 9);
        due("dateFor(1, 2, 12)", y.dateFor(1, 2, 12), 999);
        due("dateFor(1, 1, 0)", y.dateFor(1, 1, 0), 999);
        BustRest z = Due.withKinds(4, 0);
        z.change(0, 2, 0);
        z.change(0, 1, 9);
        due("kindFor(0, 0)", z.kindFor(0, 0), 4);
        z.change(0, 1, 0);
        due("kindFor(0, 0) of nought by all", z.kindFor(0, 0), 0);
        z.bequest(5, 0);
        due("kindFor(0, 5)", z.kindFor(0, 5), 0);
        due("kindFor(0, 6)", z.kindFor(0, 6), 6);
        due("kindFor(0, 60)", z.kindFor(0, 60), 6);
    }

    /** Promise 22: no day, nobody, all of eight; who is sealed or gone needn't be in the set. */
    private static void seals() {
        due("seal(20) of nobody", new BustRest().seal(20), 0);
        BustRest x = Due.withKinds(5, 5, 5, 5, 5, 5, 5, 5);
        for (int b = 0; b < 8; b++) {
            x.change(b, 2, FEET);
            x.change(b, 3, 10);
            x.change(b, 4, 99 - b);
        }
        due("seal(0)", x.seal(0), 0);
        for (int n = 1; n <= 20; n++) {
            due("seal(" + n + ")", x.seal(n), (1 << Math.min(8, n + 1)) - 1);
        }
        x.change(0, 5, 1);
        x.change(1, 6, 1);
        due("seal(20) of the others", x.seal(20), 255 - 3);
    }

    public static void main(String[] args) {
        eightBusts();
        changes();
        lastOfTheStore();
        nows();
        whatWillBe();
        longestRow();
        orders();
        seals();
        DUE.end();
    }
}
