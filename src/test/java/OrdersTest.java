/** Promises 18 to 24: what to order, and told voices. */
public final class OrdersTest {
    private static final Due DUE = new Due("OrdersTest");
    private static final int BAD = Due.BEYOND;
    private static final int MIN = Integer.MIN_VALUE;
    private static final int MAX = Integer.MAX_VALUE;
    private static final int FEET = 2048;

    private static void due(String call, long got, long want) {
        DUE.due(call, got, want);
    }

    private static void orders() {
        BustRest x = Due.withKinds(0, 5);
        due("orderFor(0, 0, 0)", x.orderFor(0, 0, 0), 0);
        due("orderFor(0, 0, 1)", x.orderFor(0, 0, 1), 2);
        due("orderFor(1, 0, 1)", x.orderFor(1, 0, 1), 0);
        due("orderFor(1, 0, 2)", x.orderFor(1, 0, 2), 2);
        x.bequest(0, 2);
        due("orderFor(1, 0, 2)", x.orderFor(1, 0, 2), 3);
        due("orderFor(0, 0, 60)", x.orderFor(0, 0, 60), 2);
        due("orderFor(0, 1, 1)", x.orderFor(0, 1, 1), 3);
        x.change(0, 6, 1);
        due("orderFor(0, 1, 1) with the other gone", x.orderFor(0, 1, 1), 2);
        due("orderFor(0, 0, 60) that is gone", x.orderFor(0, 0, 60), 0);
        due("the list still", x.listed(0), 2);
        int[][] wrong = {{-1, 0, 0}, {6, 0, 0}, {0, -1, 0}, {0, 2, 0}, {0, 0, -1}, {0, 0, 61}, {MIN, 0, 0},
            {MAX, 0, 0}, {0, MIN, 0}, {0, MAX, 0}, {0, 0, MIN}, {0, 0, MAX}};
        for (int[] w : wrong) {
            due("orderFor(" + w[0] + ", " + w[1] + ", " + w[2] + ")", x.orderFor(w[0], w[1], w[2]), BAD);
        }
    }

    private static void dates() {
        BustRest x = Due.withKinds(0, 0);
        x.bequest(0, 2);
        x.change(0, 1, 50);
        x.change(1, 1, 50);
        due("dateFor(0, 2, 0)", x.dateFor(0, 2, 0), Due.NONE);
        due("dateFor(0, 1, 0)", x.dateFor(0, 1, 0), 999);
        due("dateFor(0, 2, 1)", x.dateFor(0, 2, 1), 50);
        due("dateFor(1, 2, 1)", x.dateFor(1, 2, 1), 49);
        due("dateFor(1, 2, 6)", x.dateFor(1, 2, 6), 49);
        due("dateFor(1, 2, 7)", x.dateFor(1, 2, 7), 999);
        due("dateFor(1, 3, 12)", x.dateFor(1, 3, 12), Due.NONE);
        x.change(0, 1, 0);
        due("dateFor(1, 2, 1) behind date 0", x.dateFor(1, 2, 1), Due.NONE);
        x.change(0, 1, 1);
        due("dateFor(1, 2, 1) behind date 1", x.dateFor(1, 2, 1), 0);
        x.change(0, 1, 999);
        due("dateFor(1, 2, 1) behind date 999", x.dateFor(1, 2, 1), 998);
        due("dateFor(0, 2, 1) of the lesser number", x.dateFor(0, 2, 1), 50);
        x.change(0, 6, 1);
        due("dateFor(1, 2, 1) alone", x.dateFor(1, 2, 1), 999);
        due("the date still", x.of(1, 1), 50);
        int[][] wrong = {{-1, 0, 0}, {2, 0, 0}, {0, -1, 0}, {0, 12, 0}, {0, 0, -1}, {0, 0, 13}, {MIN, 0, 0},
            {MAX, 0, 0}, {0, MIN, 0}, {0, MAX, 0}, {0, 0, MIN}, {0, 0, MAX}};
        for (int[] w : wrong) {
            due("dateFor(" + w[0] + ", " + w[1] + ", " + w[2] + ")", x.dateFor(w[0], w[1], w[2]), BAD);
        }
    }

    /** Two bequests of part 2 and then one of part 3, among dates 100 and 200. */
    private static void datesBetween() {
        BustRest x = Due.withKinds(0, 0, 0);
        Due.read(x, "bequest 0 2;bequest 1 2;bequest 2 3");
        x.change(1, 1, 100);
        x.change(2, 1, 200);
        due("dateFor(0, 2, 2): one is before it", x.dateFor(0, 2, 2), 200);
        due("dateFor(0, 2, 1): none is", x.dateFor(0, 2, 1), 100);
        due("dateFor(0, 3, 3): none is", x.dateFor(0, 3, 3), 100);
    }

    private static void kindsFor() {
        BustRest x = Due.withKinds(0, 0);
        due("kindFor(0, 0)", x.kindFor(0, 0), 6);
        x.change(0, 2, 0);
        due("kindFor(0, 0) without parts", x.kindFor(0, 0), 0);
        x.change(0, 1, 15);
        due("kindFor(0, 0) with a date", x.kindFor(0, 0), 4);
        due("kindFor(0, 60) with yearning", x.kindFor(0, 60), 4);
        x.change(0, 2, 1);
        due("kindFor(0, 0) with the head", x.kindFor(0, 0), 6);
        x.change(0, 2, Due.set(7));
        due("kindFor(0, 0) with part 7", x.kindFor(0, 0), 6);
        due("the kind still", x.of(0, 0), 0);
        int[][] wrong = {{-1, 0}, {2, 0}, {0, -1}, {0, 61}, {MIN, 0}, {MAX, 0}, {0, MIN}, {0, MAX}};
        for (int[] w : wrong) {
            due("kindFor(" + w[0] + ", " + w[1] + ")", x.kindFor(w[0], w[1]), BAD);
        }
        BustRest y = Due.withKinds(0);
        y.change(0, 2, 0);
        y.change(0, 1, 1);
        due("kindFor(0, 0): cicero's 1", y.kindFor(0, 0), 4);
        Due.read(y, "bequest 0 2");
        due("kindFor(0, 1): homer's part 2", y.kindFor(0, 1), 6);
    }

    private static void paths(int kind, int has, int... want) {
        BustRest x = Due.withKinds(kind);
        x.change(0, 2, has);
        for (int part = 0; part < 12; part++) {
            int due = want[part] < 0 ? Due.NONE : want[part];
            due("kind " + kind + " that has " + has + ": pathTo(0, " + part + ")", x.pathTo(0, part), due);
            due("it has still", x.of(0, 2), has);
        }
    }

    private static void paths() {
        paths(0, 3, 0, 0, 4, 12, 28, 60, 124, 252, 508, 1020, 2044, 4092);
        paths(0, 16, -1, -1, -1, -1, 0, 32, 96, 224, 480, 992, 2016, 4064);
        paths(1, 3, 0, 0, 4, 12, 16, 48, 64, 192, 256, 768, 1024, 3072);
        paths(1, 0, 1, 3, 4, 12, 16, 48, 64, 192, 256, 768, 1024, 3072);
        paths(2, 3, 0, 0, 4, 12, 28, -1, -1, -1, -1, -1, -1, -1);
        paths(2, 35, 0, 0, 4, 12, 28, 0, 64, 192, 448, 960, 1984, 4032);
        paths(3, 3, 0, 0, 4, 8, 24, -1, -1, -1, -1, -1, -1, -1);
        paths(4, 0, 1, 2, 4, 8, 16, 32, 64, 128, 256, 512, 1024, 2048);
        paths(5, 0, -1, -1, 4, 8, 16, 32, 64, 128, -1, -1, -1, -1);
        paths(6, 3, 0, 0, 4, 12, 16, 48, 64, -1, -1, -1, -1, -1);
        BustRest x = Due.withKinds(0);
        x.change(0, 6, 1);
        due("of one that is gone", x.pathTo(0, 3), 12);
        int[][] wrong = {{-1, 0}, {1, 0}, {0, -1}, {0, 12}, {MIN, 0}, {MAX, 0}, {0, MIN}, {0, MAX}};
        for (int[] w : wrong) {
            due("pathTo(" + w[0] + ", " + w[1] + ")", x.pathTo(w[0], w[1]), BAD);
        }
    }

    private static BustRest atTheDoor(int n) {
        BustRest x = new BustRest();
        for (int b = 0; b < n; b++) {
            x.bust(0, b);
            x.change(b, 2, 3 + FEET);
            x.change(b, 3, 14);
            x.change(b, 4, 47 - 3 * (b / 2));
        }
        return x;
    }

    private static void seals() {
        BustRest x = atTheDoor(8);
        due("seal(0)", x.seal(0), 0);
        due("seal(1)", x.seal(1), Due.set(0, 1));
        due("seal(2)", x.seal(2), Due.set(0, 1, 2, 3));
        due("seal(20)", x.seal(20), 255);
        x.change(1, 5, 1);
        due("seal(1) with one sealed", x.seal(1), Due.set(0));
        x.change(0, 6, 1);
        due("seal(1) with one gone", x.seal(1), 0);
        due("seal(2) then", x.seal(2), Due.set(2, 3));
        due("none is sealed by it", x.of(2, 5), 0);
        due("left(2)", x.left(2), 2);
        for (int n : new int[] {-1, 21, MIN, MAX}) {
            due("seal(" + n + ")", x.seal(n), BAD);
        }
        due("seal(20) of nobody", new BustRest().seal(20), 0);
    }

    /** Sealed, the first one takes part 10 itself, and the second one's way to the feet is longer. */
    private static void sealForAnother() {
        BustRest x = atTheDoor(1);
        x.change(0, 0, 4);
        x.change(0, 2, 4095 - 1024);
        x.change(0, 4, 99);
        x.bust(0, 500);
        x.change(1, 2, 1023);
        x.change(1, 3, 14);
        x.change(1, 4, 99);
        Due.read(x, "bequest 1 10;bequest 2 11");
        due("both would go", x.left(5), 2);
        due("seal(5)", x.seal(5), Due.set(0));
        due("seal(12)", x.seal(12), Due.set(0, 1));
    }

    private static void voices() {
        BustRest x = Due.withKinds(0, 0);
        due("fits(0, 0) missing", x.fits(0, 0), Due.MISSING);
        due("fits(0, 9) missing", x.fits(0, 9), Due.MISSING);
        due("kinds(0, 0) missing", x.kinds(0, 0), Due.MISSING);
        due("kinds(0, 9) missing", x.kinds(0, 9), Due.MISSING);
        voices(x, 16, 13, 127);
        voices(x, 16, 13, Due.set(0, 2, 3, 4, 5), 20);
        voices(x, 16, 1, 0, 20, 30);
        voices(x, 16, 12, Due.set(0, 5), 20, 20);
        voices(x, 16, 1, 0, -1, 30);
        voices(x, 16, 0, Due.set(2), 20, 17, 14);
        voices(x, 16, 0, Due.set(3, 4), 20, 16, 12);
        voices(x, 16, 13, 127, -1, -1, -1);
        voices(x, 8, 13, 127, 255);
        voices(x, 16, 0, Due.set(6), 63);
        voices(x, 8, 0, 0, 21, -2);
        x.change(0, 2, 1 + 4 + 8 + 16 + 64 + 128);
        voices(x, 8, 0, 0, 201);
        voices(x, 32, 0, Due.set(6), 201);
        for (int s : new int[] {-1, 4, MIN, MAX}) {
            due("fits(" + s + ", 0)", x.fits(s, 0), BAD);
            due("kinds(" + s + ", 0)", x.kinds(s, 0), BAD);
        }
        for (int b : new int[] {-1, 2, MIN, MAX}) {
            due("fits(0, " + b + ")", x.fits(0, b), BAD);
            due("kinds(0, " + b + ")", x.kinds(0, b), BAD);
        }
        due("the list still", x.listed(0), 12);
        due("the kind still", x.of(0, 0), 0);
    }

    private static void voices(BustRest x, int bits, int fits, int kinds, int... numbers) {
        Due.numbers(x, 0, bits, numbers);
        String sheet = java.util.Arrays.toString(numbers) + " of " + bits + " bits";
        due("fits(0, 0) of " + sheet, x.fits(0, 0), fits);
        due("kinds(0, 0) of " + sheet, x.kinds(0, 0), kinds);
    }

    private static void voicesOfALaterDay() {
        BustRest x = Due.withKinds(0);
        x.go(4);
        Due.numbers(x, 1, 8, 20, 30, 30, 30, 30, 30, 30, 40);
        x.bequest(5, 2);
        x.bequest(4, 3);
        due("fits(1, 0): place 4 itself", x.fits(1, 0), 0);
        x.bequest(5, 12);
        due("fits(1, 0): two on, then three never", x.fits(1, 0), 0);
        Due.numbers(x, 1, 8, 20, 30, 30, 30, 30, 30, 30, 30);
        due("fits(1, 0): part 2", x.fits(1, 0), 1);
        due("listed(4) still", x.listed(4), 3);
        due("day still", x.count(0), 4);
    }

    public static void main(String[] args) {
        orders();
        dates();
        datesBetween();
        kindsFor();
        paths();
        seals();
        sealForAnother();
        voices();
        voicesOfALaterDay();
        DUE.end();
    }
}
