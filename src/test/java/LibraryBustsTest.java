/** Promises 1 to 10: a new object, the list, the store, the busts. */
public final class LibraryBustsTest {
    private static final Due DUE = new Due("LibraryBustsTest");
    private static final int BAD = Due.BEYOND;
    private static final int MIN = Integer.MIN_VALUE;
    private static final int MAX = Integer.MAX_VALUE;

    private static void due(String call, long got, long want) {
        DUE.due(call, got, want);
    }

    private static void newObject() {
        BustRest x = new BustRest();
        due("new: status(-1)", x.status(-1), 0);
        int[] counts = {0, 0, 0, 0, 0, 0, 1, 0};
        for (int what = 0; what < counts.length; what++) {
            due("new: count(" + what + ")", x.count(what), counts[what]);
        }
        for (int i = 0; i < 6; i++) {
            due("new: listed(" + i + ")", x.listed(i), 12);
        }
        for (int part = 0; part < 12; part++) {
            due("new: stored(" + part + ")", x.stored(part), 0);
        }
        due("new: now(5)", x.now(5), -1);
        due("new: wipe()", x.wipe(), 0);
        due("new: tear()", x.tear(), 0);
        due("new: undo()", x.undo(), Due.NONE);
        for (int s = 0; s < 4; s++) {
            due("new: judge(" + s + ")", x.judge(s), Due.MISSING);
        }
        for (int spot = 0; spot < 10; spot++) {
            due("new: as(" + spot + ", 0)", x.as(spot, 0), Due.MISSING);
        }
        due("new: of(0, 0)", x.of(0, 0), BAD);
    }

    private static void bequests() {
        BustRest x = new BustRest();
        due("bequest(0, 0)", x.bequest(0, 0), 12);
        due("bequest(5, 11)", x.bequest(5, 11), 12);
        due("bequest(0, 12)", x.bequest(0, 12), 0);
        due("bequest(5, 3)", x.bequest(5, 3), 11);
        due("listed(0)", x.listed(0), 12);
        due("listed(5)", x.listed(5), 3);
        due("listed(4)", x.listed(4), 12);
        int[][] wrong = {{-1, 0}, {6, 0}, {0, -1}, {0, 13}, {MIN, 0}, {MAX, 0}, {5, MIN}, {5, MAX}};
        for (int[] w : wrong) {
            due("bequest(" + w[0] + ", " + w[1] + ")", x.bequest(w[0], w[1]), BAD);
        }
        due("listed(5) still", x.listed(5), 3);
        for (int i : new int[] {-1, 6, MIN, MAX}) {
            due("listed(" + i + ")", x.listed(i), BAD);
        }
        for (int part : new int[] {-1, 12, MIN, MAX}) {
            due("stored(" + part + ")", x.stored(part), BAD);
            due("heir(" + part + ")", x.heir(part), BAD);
        }
    }

    private static void newBusts() {
        BustRest x = new BustRest();
        int[][] wrong = {{-1, 0}, {7, 0}, {0, -1}, {0, 1000}, {MIN, 0}, {MAX, 0}, {0, MIN}, {0, MAX}};
        for (int[] w : wrong) {
            due("bust(" + w[0] + ", " + w[1] + ")", x.bust(w[0], w[1]), BAD);
        }
        for (int b = 0; b < 8; b++) {
            due("bust " + b, x.bust(Math.min(b, 6), b == 7 ? 999 : b), b);
        }
        due("a ninth", x.bust(0, 0), Due.FULL);
        due("a ninth of no kind", x.bust(7, 0), BAD);
        int[] first = {6, 999, 3, 0, 0, 0, 0};
        for (int what = 0; what < 7; what++) {
            due("of(7, " + what + ")", x.of(7, what), first[what]);
        }
        due("count(1)", x.count(1), 8);
    }

    private static void rows(BustRest x, int has, int yearning, int what, int... want) {
        for (int kind = 0; kind < 7; kind++) {
            x.change(0, 0, kind);
            x.change(0, 2, has);
            x.change(0, 4, yearning);
            due("kind " + kind + " has " + has + ": of(0, " + what + ")", x.of(0, what), want[kind]);
        }
    }

    private static void whatKindsMake() {
        BustRest x = new BustRest();
        x.bust(0, 47);
        int limbs = Due.set(3, 4, 8, 10);
        rows(x, 3, 0, 7, 3, 4, 3, 4, 4, 1, 8);
        rows(x, limbs, 0, 7, 2, 3, 0, 1, 0, 1, 6);
        rows(x, 0, 0, 7, 4, 5, 4, 5, 5, 1, 10);
        rows(x, 4095, 0, 7, 0, 1, 0, 1, 0, 1, 2);
        rows(x, Due.set(0, 3), 0, 7, 3, 4, 3, 4, 3, 1, 8);
        rows(x, 3, 0, 8, 50, 40, 80, 80, 40, 99, 40);
        rows(x, 3, 0, 9, 1, 2, 1, 2, 2, 5, 2);
        rows(x, limbs, 0, 9, 1, 2, 1, 2, 2, 5, 3);
        rows(x, 3, 0, 10, 20, 21, 20, 20, 27, 20, 63);
        rows(x, limbs, 15, 10, 40, 50, 25, 39, 46, 0, 150);
        rows(x, limbs, 60, 10, 40, 50, 0, 14, 21, 0, 150);
        rows(x, 0, 0, 10, 0, 0, 0, 0, 7, 0, 0);
        rows(x, 4095, 0, 10, 120, 131, 120, 134, 141, 120, 393);
        rows(x, 1, 0, 10, 10, 10, 10, 10, 17, 10, 30);
        int[][] wrong = {{-1, 0}, {1, 0}, {8, 0}, {0, -1}, {0, 11}, {MIN, 0}, {MAX, 0}, {0, MIN}, {0, MAX}};
        for (int[] w : wrong) {
            due("of(" + w[0] + ", " + w[1] + ")", x.of(w[0], w[1]), BAD);
        }
    }

    private static void changes() {
        BustRest x = Due.withKinds(0, 0);
        int[] first = {0, 20, 3, 0, 0, 0, 0};
        int[] most = {6, 999, 4095, 15, 99, 1, 1};
        for (int what = 0; what < 7; what++) {
            due("change(1, " + what + ", -1)", x.change(1, what, -1), BAD);
            due("change(1, " + what + ", one above)", x.change(1, what, most[what] + 1), BAD);
            due("change(1, " + what + ", most)", x.change(1, what, most[what]), first[what]);
            due("of then " + what, x.of(1, what), most[what]);
            due("change(1, " + what + ", 0)", x.change(1, what, 0), most[what]);
            due("of at last " + what, x.of(1, what), 0);
        }
        due("the other's date", x.of(0, 1), 10);
        due("the other's parts", x.of(0, 2), 3);
        int[][] wrong = {{2, 0}, {-1, 0}, {0, -1}, {0, 7}, {0, 10}, {MIN, 0}, {MAX, 0}, {0, MIN}, {0, MAX}};
        for (int[] w : wrong) {
            due("change(" + w[0] + ", " + w[1] + ", 0)", x.change(w[0], w[1], 0), BAD);
        }
        due("change(0, 6, 1)", x.change(0, 6, 1), 0);
        due("nobody went out", x.count(2), 0);
    }

    private static int accepted(BustRest x, int bust) {
        int set = 0;
        for (int part = 0; part < 12; part++) {
            set |= x.accepts(bust, part) << part;
        }
        return set;
    }

    private static void accepting(int has, int... want) {
        BustRest x = Due.withKinds(0, 1, 2, 3, 4, 5, 6);
        for (int kind = 0; kind < 7; kind++) {
            x.change(kind, 2, has);
            due("kind " + kind + " that has " + has + " accepts", accepted(x, kind), want[kind]);
        }
    }

    private static void accepts() {
        accepting(3, Due.set(2), Due.set(2, 4, 6, 8, 10), Due.set(2), Due.set(2, 3), 4095 - 3,
            Due.set(2, 3, 4, 5, 6, 7), Due.set(2, 4, 6));
        int has = Due.set(4, 6, 10);
        accepting(has, Due.set(5, 7, 11), Due.set(0, 2, 5, 7, 8, 11), Due.set(7, 11), Due.set(3, 7, 11), 4095 - has,
            Due.set(2, 3, 5, 7), Due.set(0, 2, 5));
        accepting(0, 0, Due.set(0, 2, 4, 6, 8, 10), 0, Due.set(3), 4095, Due.set(2, 3, 4, 5, 6, 7), Due.set(0, 2, 4, 6));
        accepting(4095, 0, 0, 0, 0, 0, 0, 0);
        BustRest x = Due.withKinds(0);
        x.change(0, 6, 1);
        due("one that is gone accepts", x.accepts(0, 2), 1);
        int[][] wrong = {{-1, 0}, {1, 0}, {0, -1}, {0, 12}, {MIN, 0}, {MAX, 0}, {0, MIN}, {0, MAX}};
        for (int[] w : wrong) {
            due("accepts(" + w[0] + ", " + w[1] + ")", x.accepts(w[0], w[1]), BAD);
        }
    }

    private static void heirs() {
        BustRest x = new BustRest();
        due("heir(2) of nobody", x.heir(2), Due.NONE);
        x.bust(0, 30);
        x.bust(0, 20);
        x.bust(0, 20);
        x.bust(4, 25);
        due("heir(2)", x.heir(2), 1);
        due("heir(11)", x.heir(11), 3);
        due("heir(0)", x.heir(0), Due.NONE);
        x.change(1, 6, 1);
        due("heir(2) without 1", x.heir(2), 2);
        x.change(2, 2, 7);
        due("heir(2) when 2 has it", x.heir(2), 3);
        x.change(3, 1, 30);
        due("heir(2) of two of a date", x.heir(2), 0);
        x.change(3, 1, 29);
        due("heir(2) of the lesser date", x.heir(2), 3);
        due("nobody got it", x.of(3, 2), 3);
    }

    private static void gifts() {
        BustRest x = Due.withKinds(0, 0);
        Due.read(x, "store 11 2;store 0 1;store 5 1");
        due("give(0, 11)", x.give(0, 11), 2051);
        due("stored(11)", x.stored(11), 1);
        due("give(0, 11) again", x.give(0, 11), Due.STATE);
        due("give(0, 0) that it has", x.give(0, 0), Due.STATE);
        due("give(0, 4) of an empty store", x.give(0, 4), Due.STATE);
        x.change(1, 6, 1);
        due("give(1, 5) to one that is gone", x.give(1, 5), Due.STATE);
        due("stored(11) still", x.stored(11), 1);
        due("stored(5) still", x.stored(5), 1);
        x.change(1, 6, 0);
        due("give(1, 11)", x.give(1, 11), 2051);
        due("give(1, 5)", x.give(1, 5), 2083);
        due("stored(11) at last", x.stored(11), 0);
        int[][] wrong = {{-1, 0}, {2, 0}, {0, -1}, {0, 12}, {MIN, 0}, {MAX, 0}, {0, MIN}, {0, MAX}};
        for (int[] w : wrong) {
            due("give(" + w[0] + ", " + w[1] + ")", x.give(w[0], w[1]), BAD);
        }
    }

    public static void main(String[] args) {
        newObject();
        bequests();
        newBusts();
        whatKindsMake();
        changes();
        accepts();
        heirs();
        gifts();
        DUE.end();
    }
}
