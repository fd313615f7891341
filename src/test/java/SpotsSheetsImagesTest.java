/** Promises 31 to 42: spots, sheets, images, counts and findings. */
public final class SpotsSheetsImagesTest {
    private static final Due DUE = new Due("SpotsSheetsImagesTest");
    private static final int BAD = Due.BEYOND;
    private static final int MIN = Integer.MIN_VALUE;
    private static final int MAX = Integer.MAX_VALUE;

    private static void due(String call, long got, long want) {
        DUE.due(call, got, want);
    }

    private static void spots() {
        BustRest x = Due.withKinds(0, 1, 2, 3, 4, 5, 6);
        int[] kindsOf = {Due.set(0), Due.set(0, 1), Due.set(0, 2), Due.set(0, 2, 3), Due.set(0, 2, 3, 4), Due.set(0, 5),
            Due.set(0, 1, 6)};
        for (int b = 0; b < 7; b++) {
            due("hold(9, " + b + ")", x.hold(9, b), 1);
            for (int kind = 0; kind < 7; kind++) {
                boolean is = (kindsOf[b] >> kind & 1) == 1;
                due("kind " + b + " as " + kind, x.as(9, kind), is ? b : Due.KIND);
            }
        }
        due("count(7)", x.count(7), 1);
        due("hold(0, 6)", x.hold(0, 6), 1);
        due("as(0, 1)", x.as(0, 1), 6);
        x.change(6, 0, 5);
        due("as(0, 1) of another kind now", x.as(0, 1), Due.KIND);
        due("as(0, 5)", x.as(0, 5), 6);
        x.change(6, 6, 1);
        due("as(0, 5) gone", x.as(0, 5), 6);
        due("count(7)", x.count(7), 2);
        due("hold(0, -1)", x.hold(0, -1), 1);
        due("as(0, 5) of nothing", x.as(0, 5), Due.MISSING);
        due("as(0, 7) of nothing", x.as(0, 7), BAD);
        due("hold(0, -1) of nothing", x.hold(0, -1), 1);
        due("count(7)", x.count(7), 1);
        int[][] wrong = {{-1, 0}, {10, 0}, {0, -2}, {0, 7}, {MIN, 0}, {MAX, 0}, {0, MIN}, {0, MAX}, {10, -1}};
        for (int[] w : wrong) {
            due("hold(" + w[0] + ", " + w[1] + ")", x.hold(w[0], w[1]), BAD);
        }
        int[][] asWrong = {{-1, 0}, {10, 0}, {9, -1}, {9, 7}, {MIN, 0}, {MAX, 0}, {9, MIN}, {9, MAX}};
        for (int[] w : asWrong) {
            due("as(" + w[0] + ", " + w[1] + ")", x.as(w[0], w[1]), BAD);
        }
    }

    private static void sheets() {
        BustRest x = new BustRest();
        int[][] calls = {{0, 8, 0, 0}, {1, 16, 40, 40}, {2, 32, 1, 1}, {3, 0, 40, 0}, {3, 0, 0, 0}, {1, 0, 7, 0},
            {-1, 8, 1, BAD}, {4, 8, 1, BAD}, {MIN, 8, -1, BAD}, {MAX, 8, 1, BAD}, {0, 1, 1, BAD}, {0, -8, 1, BAD},
            {0, 24, -1, BAD}, {0, 64, 1, BAD}, {0, MIN, 1, BAD}, {0, MAX, 1, BAD}, {0, 8, -1, Due.SIZE},
            {0, 0, -1, Due.SIZE}, {0, 16, MIN, Due.SIZE}, {0, 8, 41, BAD}, {0, 0, 41, BAD}, {0, 32, MAX, BAD}};
        for (int[] c : calls) {
            due("sheet(" + c[0] + ", " + c[1] + ", " + c[2] + ")", x.sheet(c[0], c[1], c[2]), c[3]);
        }
        due("sheet 1 is missing", x.load(1), Due.MISSING);
        due("sheet 0 stayed", x.load(0), 0);
        due("write(0, 0, 1) into none", x.write(0, 0, 1), BAD);
        due("write(2, 0, 1)", x.write(2, 0, 1), 1);
        due("load(2)", x.load(2), 1);
        due("listed(0)", x.listed(0), 1);
        due("sheet(2, 32, 1) anew", x.sheet(2, 32, 1), 1);
        due("load(2)", x.load(2), 1);
        due("listed(0) of a new sheet", x.listed(0), 0);
    }

    /** A bust's voice of 20 is what tells a sheet's numbers apart. */
    private static void writes() {
        BustRest x = Due.withKinds(0);
        x.change(0, 1, 0);
        int[][] written = {{8, 20, 0}, {8, 256 + 20, 0}, {8, -256 + 20, 0}, {16, 256 + 20, 1}, {16, 65536 + 20, 0},
            {32, 65536 + 20, 1}, {32, 20, 0}, {8, 0x7fffff14, 0}, {16, 0xffff0014, 0}};
        for (int[] w : written) {
            x.sheet(0, w[0], 1);
            due("write(0, 0, " + w[1] + ")", x.write(0, 0, w[1]), 1);
            due("judge(0) of " + w[0] + " bits, " + w[1], x.judge(0), w[2]);
        }
        int[][] any = {{8, 255, 1}, {8, -1, 1}, {8, 127, 0}, {16, 255, 0}, {16, 65535, 1}, {16, 32767, 0}, {32, 65535, 0},
            {32, -1, 1}};
        for (int[] w : any) {
            x.sheet(0, w[0], 1);
            x.write(0, 0, w[1]);
            due("fits(0, 0) of " + w[0] + " bits, " + w[1], x.fits(0, 0), 13 * w[2]);
        }
        x.sheet(0, 8, 2);
        for (int i : new int[] {-1, 2, 40, MIN, MAX}) {
            due("write(0, " + i + ", 1)", x.write(0, i, 1), BAD);
            due("write(1, " + i + ", 1)", x.write(1, i, 1), Due.MISSING);
        }
        for (int s : new int[] {-1, 4, MIN, MAX}) {
            due("write(" + s + ", 0, 1)", x.write(s, 0, 1), BAD);
        }
        x.sheet(3, 8, 40);
        due("write(3, 39, 1)", x.write(3, 39, 1), 1);
        due("write(3, 40, 1)", x.write(3, 40, 1), BAD);
    }

    private static void listIs(BustRest x, int s, int... want) {
        x.load(s);
        for (int i = 0; i < want.length; i++) {
            due("number " + i, x.listed(i), want[i]);
        }
    }

    private static void copies() {
        BustRest x = new BustRest();
        Due.numbers(x, 0, 8, 1, 2, 3, 4, 5, 6);
        Due.numbers(x, 1, 8, 7, 8, 9);
        Due.numbers(x, 2, 16, 1, 1, 1);
        due("copy(0, 0, 0, 1, 5)", x.copy(0, 0, 0, 1, 5), 5);
        listIs(x, 0, 1, 1, 2, 3, 4, 5);
        due("copy(0, 2, 0, 0, 4)", x.copy(0, 2, 0, 0, 4), 4);
        listIs(x, 0, 2, 3, 4, 5, 4, 5);
        due("copy(1, 1, 0, 4, 2)", x.copy(1, 1, 0, 4, 2), 2);
        listIs(x, 0, 2, 3, 4, 5, 8, 9);
        due("copy(0, 0, 1, 0, 3)", x.copy(0, 0, 1, 0, 3), 3);
        listIs(x, 1, 2, 3, 4, 5, 8, 9);
        due("copy(0, 6, 1, 3, 0)", x.copy(0, 6, 1, 3, 0), 0);
        int[][] wrong = {{0, 7, 1, 0, 0, BAD}, {0, 0, 1, 4, 0, BAD}, {0, 0, 1, 0, 4, BAD}, {1, 0, 0, 0, 4, BAD},
            {0, 5, 1, 0, 2, BAD}, {1, 0, 0, 5, 2, BAD}, {0, -1, 1, 0, 1, BAD}, {0, 0, 1, -1, 1, BAD}, {0, 0, 1, 0, -1, BAD},
            {0, MAX, 1, 0, MAX, BAD}, {0, 0, 1, MAX, MAX, BAD}, {0, MIN, 1, 0, 0, BAD}, {0, 0, 1, MIN, 0, BAD},
            {0, 0, 1, 0, MIN, BAD}, {0, MAX, 1, 0, 1, BAD}, {0, 1, 1, 0, MAX, BAD}, {-1, 0, 3, 0, 0, BAD},
            {3, 0, 4, 0, 0, BAD}, {MIN, 0, 0, 0, 0, BAD}, {0, 0, MAX, 0, 0, BAD}, {3, 0, 0, 0, 99, Due.MISSING},
            {0, 0, 3, 0, -1, Due.MISSING}, {0, 0, 2, 0, -1, Due.KIND}, {2, 0, 0, 0, 99, Due.KIND}, {0, 0, 2, 0, 0, Due.KIND}};
        for (int[] w : wrong) {
            due("copy(" + w[0] + ", " + w[1] + ", " + w[2] + ", " + w[3] + ", " + w[4] + ")",
                x.copy(w[0], w[1], w[2], w[3], w[4]), w[5]);
        }
        listIs(x, 0, 2, 3, 4, 5, 8, 9);
        listIs(x, 1, 2, 3, 4, 5, 8, 9);
    }

    private static void loads() {
        BustRest x = new BustRest();
        for (int s : new int[] {-1, 4, MIN, MAX}) {
            due("load(" + s + ")", x.load(s), BAD);
            due("judge(" + s + ")", x.judge(s), BAD);
        }
        due("load(0)", x.load(0), Due.MISSING);
        due("judge(0)", x.judge(0), Due.MISSING);
        Due.numbers(x, 0, 8, 0, 12, 13, 5);
        due("load(0)", x.load(0), 2);
        int[] want = {0, 12, 12, 12, 12, 12};
        for (int i = 0; i < 6; i++) {
            due("listed(" + i + ")", x.listed(i), want[i]);
        }
        Due.numbers(x, 0, 32, 1, 2, 3, 4, 5, 6, 7);
        due("load(0) of seven", x.load(0), 6);
        due("listed(5)", x.listed(5), 6);
        Due.numbers(x, 0, 32, -1, 2);
        due("load(0) of none", x.load(0), 0);
        Due.numbers(x, 0, 16);
        due("load(0) of no numbers", x.load(0), 0);
        Due.numbers(x, 0, 16, 9);
        due("load(0) of one", x.load(0), 1);
        due("listed(0)", x.listed(0), 9);
        due("listed(1) stays", x.listed(1), 2);
    }

    private static void judges() {
        BustRest x = Due.withKinds(0, 1, 6);
        Due.numbers(x, 0, 8, 20, 21, 63);
        due("judge(0)", x.judge(0), 0);
        Due.numbers(x, 0, 8, 20, 21);
        due("judge(0) of two", x.judge(0), 0);
        Due.numbers(x, 0, 8);
        due("judge(0) of none", x.judge(0), 0);
        Due.numbers(x, 0, 8, 19, 21, 63);
        due("judge(0), the first", x.judge(0), 1);
        Due.numbers(x, 0, 8, 20, 21, 64);
        due("judge(0), the third", x.judge(0), 3);
        Due.numbers(x, 0, 8, 20, 21, 63, 0);
        due("judge(0), one too many", x.judge(0), 4);
        Due.numbers(x, 0, 8, -1, 21, 63);
        due("judge(0), no -1 for any", x.judge(0), 1);
        x.change(2, 6, 1);
        Due.numbers(x, 0, 8, 20, 21, 63);
        due("judge(0) with one gone", x.judge(0), 0);
    }

    private static void images() {
        BustRest x = Due.withKinds(5, 1);
        x.change(0, 2, 2048);
        Due.read(x, "store 3 4;bequest 2 7");
        x.hold(3, 1);
        x.seed(77);
        x.go(2);
        due("undo() of nothing", x.undo(), Due.NONE);
        due("image()", x.image(), 1);
        x.bust(6, 5);
        x.hold(3, 2);
        x.hold(4, 0);
        x.seed(78);
        x.bequest(2, 8);
        x.change(0, 3, 15);
        x.change(0, 4, 99);
        x.change(1, 0, 3);
        x.give(1, 3);
        x.sheet(0, 8, 2);
        x.feed(0, 2);
        due("go(3)", x.go(3), 1);
        due("of(3, 0)", x.of(3, 0), BAD);
        due("undo()", x.undo(), 2);
        int[] counts = {2, 2, 0, 4, 0, 2, 77, 1};
        for (int what = 0; what < counts.length; what++) {
            due("count(" + what + ")", x.count(what), counts[what]);
        }
        due("as(3, 1)", x.as(3, 1), 1);
        due("listed(2)", x.listed(2), 7);
        due("of(0, 3)", x.of(0, 3), 0);
        due("of(0, 4)", x.of(0, 4), 2);
        due("of(0, 6)", x.of(0, 6), 0);
        due("of(1, 0)", x.of(1, 0), 1);
        due("of(1, 2)", x.of(1, 2), 3);
        due("of(2, 0)", x.of(2, 0), BAD);
        due("the sheet stays: a torso without a head says 0", x.judge(0), 2);
        due("the tape stays", x.wipe(), 2);
        due("findings stay", x.status(-1), 3);
        x.go(1);
        due("undo() again", x.undo(), 2);
        x.go(4);
        due("a later image()", x.image(), 1);
        x.go(1);
        due("undo() to the later", x.undo(), 6);
        due("tear()", x.tear(), 1);
        due("tear()", x.tear(), 0);
        due("undo() of nothing", x.undo(), Due.NONE);
        due("day", x.count(0), 6);
        due("image() again", x.image(), 1);
        due("undo()", x.undo(), 6);
    }

    private static void imageOfMoreBusts() {
        BustRest x = Due.withKinds(0, 1, 2);
        x.change(2, 4, 9);
        x.image();
        x.tear();
        BustRest y = Due.withKinds(4, 3);
        y.change(1, 5, 1);
        y.image();
        Due.read(y, "poet 7 has 1;torso 8");
        due("count(1)", y.count(1), 4);
        int[] most = {6, 999, 4095, 15, 99, 1, 1};
        for (int what = 0; what < 7; what++) {
            y.change(2, what, most[what]);
            y.change(3, what, what < 5 ? most[what] : 0);
        }
        y.undo();
        due("count(1) then", y.count(1), 2);
        int[] now = {0, 0, 0, 0, 0, 0, 0, 0};
        for (int what = 0; what < 8; what++) {
            due("now(" + what + ") then", y.now(what), now[what]);
        }
        due("who would be heir", y.heir(5), 0);
        due("a new one", y.bust(0, 3), 2);
        int[] first = {0, 3, 3, 0, 0, 0, 0};
        for (int what = 0; what < 7; what++) {
            due("of(2, " + what + ") of a new one", y.of(2, what), first[what]);
        }
        due("of(1, 5)", y.of(1, 5), 1);
        due("the other object", x.of(2, 4), 9);
    }

    private static void countsAndFindings() {
        BustRest x = Due.withKinds(0, 0, 0);
        x.change(1, 6, 1);
        x.hold(0, 0);
        x.hold(1, 0);
        Due.read(x, "store 0 3;store 11 4");
        x.feed(0, 3);
        x.go(9);
        int[] counts = {9, 3, 0, 7, 1, 3, 1, 2};
        for (int what = 0; what < counts.length; what++) {
            due("count(" + what + ")", x.count(what), counts[what]);
        }
        due("status(-1)", x.status(-1), 0);
        for (int what : new int[] {-1, 8, MIN, MAX}) {
            due("count(" + what + ")", x.count(what), BAD);
        }
        due("status(0)", x.status(0), 4);
        for (int which : new int[] {-2, 7, MIN, MAX}) {
            due("status(" + which + ")", x.status(which), BAD);
        }
        due("status(0), those too", x.status(0), 8);
        for (int i = 0; i < 29; i++) {
            x.feed(0, 4);
        }
        x.feed(0, 2);
        x.feed(0, 4);
        x.hold(2, 2);
        x.as(2, 1);
        x.as(2, 2);
        x.as(2, 3);
        for (int i = 0; i < 4; i++) {
            x.undo();
        }
        for (int i = 0; i < 5; i++) {
            x.give(0, 1);
        }
        for (int i = 0; i < 6; i++) {
            x.load(0);
        }
        for (int i = 0; i < 7; i++) {
            x.sheet(0, 8, -1);
        }
        x.odds(9, 9, 9);
        int[] want = {9, 2, 3, 4, 5, 6, 7};
        for (int which = 0; which < 7; which++) {
            due("status(" + which + ")", x.status(which), want[which]);
        }
        due("status(-1) of all", x.status(-1), 36);
        x.text();
        x.seed(BAD);
        x.count(6);
        x.seed(1);
        due("no finding of text() and seed()", x.status(-1), 36);
    }

    public static void main(String[] args) {
        spots();
        sheets();
        writes();
        copies();
        loads();
        judges();
        images();
        imageOfMoreBusts();
        countsAndFindings();
        DUE.end();
    }
}
