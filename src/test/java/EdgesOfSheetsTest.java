/**
 * The sentences of promises 23 to 42 that name a boundary, promise by promise, where it is more than the range of an
 * argument (RangesTest) or a refused call (RefusedTest): the least and the greatest, the empty and the full.
 */
public final class EdgesOfSheetsTest {
    private static final Due DUE = new Due("EdgesOfSheetsTest");
    private static final int FEET = 2048;

    private static void due(String call, long got, long want) {
        DUE.due(call, got, want);
    }

    /** Promises 23, 24: a sheet of no numbers, one of forty, and -1 for any, by the bits of the sheet. */
    private static void voices() {
        BustRest x = Due.withKinds(0);
        x.sheet(0, 8, 0);
        due("fits() of no numbers", x.fits(0, 0), 13);
        due("kinds() of no numbers", x.kinds(0, 0), 127);
        x.sheet(0, 16, 40);
        for (int i = 0; i < 40; i++) {
            due("fits() of noughts", x.fits(0, 0), 0);
            x.write(0, i, -1);
        }
        due("fits() of any", x.fits(0, 0), 13);
        due("kinds() of any", x.kinds(0, 0), 127);
        x.bequest(3, 2);
        x.write(0, 3, 20);
        x.write(0, 4, 30);
        x.write(0, 39, 30);
        due("fits() of the fortieth: all but 2 and 3", x.fits(0, 0), 11);
        x.bequest(2, 3);
        due("fits() of another part on the next round", x.fits(0, 0), 0);
        x.write(0, 39, 40);
        due("fits() of that: all but 2 and 4", x.fits(0, 0), 11);
        due("kinds() of that", x.kinds(0, 0), 1);
        x.write(0, 39, 41);
        due("fits() of one more", x.fits(0, 0), 0);
        due("kinds() of one more", x.kinds(0, 0), 0);
    }

    /** "-1: any" is what the sheet tells with its sign. */
    private static void anyBySign() {
        BustRest x = Due.withKinds(0);
        int[][] any = {{8, 255}, {8, -1}, {8, 0xffff}, {8, -257 + 256}, {16, 65535}, {16, -1}, {32, -1}};
        for (int[] a : any) {
            Due.numbers(x, 0, a[0], a[1]);
            due(a[1] + " of " + a[0] + " bits is any", x.fits(0, 0), 13);
        }
        int[][] none = {{8, 127}, {8, 254}, {8, -2}, {8, 256}, {16, 255}, {16, 32767}, {16, 65534}, {16, 65536},
            {32, 255}, {32, 65535}, {32, Integer.MAX_VALUE}, {32, Integer.MIN_VALUE}};
        for (int[] n : none) {
            Due.numbers(x, 0, n[0], n[1]);
            due(n[1] + " of " + n[0] + " bits isn't", x.fits(0, 0), 0);
            due(n[1] + " of " + n[0] + " bits isn't", x.kinds(0, 0), 0);
        }
    }

    /** Promise 23: the place for this day, which is place 0 again behind day 5. */
    private static void placeOfTheDay() {
        for (int day = 0; day < 13; day++) {
            BustRest x = Due.withKinds(0);
            for (int i = 0; i < day; i++) {
                x.go(1);
            }
            for (int i = 0; i < 6; i++) {
                x.bequest(i, i == day % 6 ? 5 : 12);
            }
            Due.numbers(x, 0, 8, 20, 30);
            due("fits() on day " + day, x.fits(0, 0), 1);
            Due.numbers(x, 0, 8, 20, 20);
            due("fits() on day " + day, x.fits(0, 0), 12);
            due("listed() still", x.listed(day % 6), 5);
        }
    }

    /** Promise 25: twenty at once are twenty by one; no bust of that number; 99 at most; the list's six places. */
    private static void chances() {
        BustRest x = Due.withKinds(1, 5, 3);
        BustRest y = Due.withKinds(1, 5, 3);
        int left = 0;
        for (int i = 0; i < 20; i++) {
            left = y.chance(1);
        }
        due("chance(20)", x.chance(20), left);
        for (int b = 0; b < 3; b++) {
            for (int what = 0; what < 7; what++) {
                due("of(" + b + ", " + what + ")", x.of(b, what), y.of(b, what));
            }
        }
        for (int i = 0; i < 6; i++) {
            due("listed(" + i + ")", x.listed(i), y.listed(i));
        }
        due("z", x.count(6), y.count(6));
        due("day", x.now(0), 20);
        for (int busts = 0; busts <= 8; busts++) {
            for (int z = 0; z < 9; z++) {
                oneChance(busts, 1000003 * z - 5);
            }
        }
    }

    private static void oneChance(int busts, int z) {
        BustRest x = Due.withKinds(java.util.Arrays.copyOf(new int[] {5, 5, 5, 5, 5, 5, 5, 5}, busts));
        for (int b = 0; b < busts; b++) {
            x.change(b, 2, 4095 - FEET);
            x.change(b, 4, 85 + b);
        }
        x.seed(z);
        x.chance(1);
        int second = ((z * 1103515245 + 12345) * 1103515245 + 12345 >>> 8) % 8;
        for (int b = 0; b < busts; b++) {
            due("z " + z + ", " + busts + " busts: of(" + b + ", 4)", x.of(b, 4), Math.min(99, 86 + b + (b == second ? 10 : 0)));
        }
    }

    /** Promise 26: none or all of the parts, no draw or seventeen, and each number of parts in lowest terms. */
    private static void odds() {
        BustRest x = Due.withKinds(0);
        int[][] lowest = {{0, 1}, {1, 12}, {1, 6}, {1, 4}, {1, 3}, {5, 12}, {1, 2}, {7, 12}, {2, 3}, {3, 4}, {5, 6},
            {11, 12}, {1, 1}};
        for (int parts = 0; parts <= 12; parts++) {
            x.change(0, 2, 4095 - ((1 << 12 - parts) - 1));
            long above = 1;
            long below = 1;
            for (int n = 0; n <= 17; n++) {
                due(parts + " parts: odds(0, " + n + ", 0)", x.odds(0, n, 0), above);
                due(parts + " parts: odds(0, " + n + ", 1)", x.odds(0, n, 1), below);
                above *= lowest[parts][0];
                below *= lowest[parts][1];
            }
        }
        x.change(0, 6, 1);
        due("of one that is gone", x.odds(0, 1, 1), 1);
    }

    /** Promises 28, 29: from empty to full, with the lowest bytes of each number, the highest of these first. */
    private static void tapes() {
        for (int n = 1; n <= 4; n++) {
            BustRest x = new BustRest();
            int had = 0;
            while (had + n <= 120) {
                had += n;
                due("feed(-1, " + n + ")", x.feed(-1, n), had);
            }
            due("feed(-1, " + n + ") into " + had, x.feed(-1, n), Due.FULL);
            for (int more = 1; more <= 4; more++) {
                if (had + more > 120) {
                    due("feed(-1, " + more + ") into " + had, x.feed(-1, more), Due.FULL);
                }
            }
            due("wipe()", x.wipe(), had);
            due("wipe() of an empty one", x.wipe(), 0);
            due("text() of an empty one", x.text(), -1);
            due("feed(-1, " + n + ") anew", x.feed(-1, n), n);
        }
        BustRest x = new BustRest();
        due("a b", x.feed(0xffffff62, 1), 1);
        due("us", x.feed(0xffff7573, 2), 3);
        due("t 7", x.feed(0x3b742037, 3), 6);
        due("sealed's first", x.feed(0x7365616c, 4), 10);
        due("ed", x.feed(0x12346564, 2), 12);
        due("text()", x.text(), 1);
        due("date", x.of(0, 1), 7);
        due("sealed", x.of(0, 5), 1);
    }

    /** Promise 30: a text that has a fault changes nothing else, however much of it was good. */
    private static void goodUpToTheFault() {
        BustRest x = Due.withKinds(0);
        String good = "store 2 5;bequest 2 5;poet 5 has 1 at 2 sealed";
        String[] behind = {";", " 5", ";#", ";bust", ";bust 1000", "#", ";has", " has 1", " sealed"};
        int[] places = {1, 1, 1, 5, 6, 0, 1, 1, 1};
        for (int i = 0; i < behind.length; i++) {
            int place = good.length() + places[i];
            due("text() of '" + good + behind[i] + "'", Due.read(x, good + behind[i]), -1 - place);
            due("count(1)", x.count(1), 1);
            due("stored(2)", x.stored(2), 0);
            due("listed(2)", x.listed(2), 12);
            due("count(5)", x.count(5), 0);
        }
        due("no finding", x.status(-1), 0);
        due("text()", Due.read(x, good), 3);
        due("count(1)", x.count(1), 2);
        due("stored(2)", x.stored(2), 5);
        due("text() adds busts", Due.read(x, "bust 1"), 1);
        due("count(1)", x.count(1), 3);
    }

    /** Promises 31, 32, 41: spots that hold nothing, hold and hold nothing again. */
    private static void spots() {
        BustRest x = Due.withKinds(6);
        for (int spot = 0; spot < 10; spot++) {
            due("count(7)", x.count(7), spot);
            due("as(" + spot + ", 0) of nothing", x.as(spot, 0), Due.MISSING);
            due("hold(" + spot + ", 0)", x.hold(spot, 0), 1);
            due("as(" + spot + ", 1)", x.as(spot, 1), 0);
        }
        due("count(7) of all", x.count(7), 10);
        for (int spot = 0; spot < 10; spot++) {
            due("hold(" + spot + ", -1)", x.hold(spot, -1), 1);
            due("as(" + spot + ", 0) of nothing again", x.as(spot, 0), Due.MISSING);
            due("count(7)", x.count(7), 9 - spot);
        }
    }

    /** Promise 33: made anew its numbers are all 0, and bits 0 makes it missing. */
    private static void sheets() {
        BustRest x = new BustRest();
        for (int bits : new int[] {8, 16, 32}) {
            due("sheet(1, " + bits + ", 0)", x.sheet(1, bits, 0), 0);
            due("it isn't missing", x.load(1), 0);
            due("write(1, 0, 1)", x.write(1, 0, 1), Due.BEYOND);
            due("sheet(1, " + bits + ", 40)", x.sheet(1, bits, 40), 40);
            for (int i = 0; i < 40; i++) {
                due("write(1, " + i + ", 5)", x.write(1, i, 5), 1);
            }
            due("write(1, 40, 5)", x.write(1, 40, 5), Due.BEYOND);
            due("sheet(1, " + bits + ", 7)", x.sheet(1, bits, 7), 7);
            due("load(1)", x.load(1), 6);
            due("listed(5)", x.listed(5), 0);
            due("sheet(1, 0, 40)", x.sheet(1, 0, 40), 0);
            due("it is missing", x.load(1), Due.MISSING);
            due("sheet(1, 0, 0)", x.sheet(1, 0, 0), 0);
            due("sheet(1, 0, -1)", x.sheet(1, 0, -1), Due.SIZE);
            due("sheet(1, 0, 41)", x.sheet(1, 0, 41), Due.BEYOND);
        }
    }

    /** Promise 34: the lowest bits, told with their sign; a homer says 150, a bust 120. */
    private static void lowestBits() {
        BustRest x = Due.withKinds(6, 0);
        x.change(0, 2, Due.set(0, 1, 2, 10));
        x.change(1, 2, 4095);
        int[][] rows = {{8, 150, 1}, {8, -106, 1}, {16, 150, 0}, {32, 150, 0}, {16, 65536 + 150, 0}, {32, 65536 + 150, 1},
            {16, -65536 + 150, 0}, {32, Integer.MIN_VALUE + 150, 1}, {16, Integer.MIN_VALUE + 150, 0}};
        for (int[] r : rows) {
            Due.numbers(x, 0, r[0], r[1]);
            due("judge() of " + r[1] + " in " + r[0] + " bits", x.judge(0), r[2]);
        }
        Due.numbers(x, 0, 8, 0, 256 + 120);
        x.change(0, 2, 0);
        due("judge() of 376 in 8 bits", x.judge(0), 0);
        x.write(0, 1, 128 + 120);
        due("judge() of 248 in 8 bits", x.judge(0), 2);
    }

    /** Promise 35: "as they all were", both ways over themselves; none at the very end; all. */
    private static void copies() {
        for (int from = 0; from <= 7; from++) {
            for (int to = 0; to <= 7; to++) {
                for (int n = 0; n <= 7; n++) {
                    copy(from, to, n);
                }
            }
        }
        BustRest x = new BustRest();
        x.sheet(0, 8, 6);
        x.sheet(1, 8, 0);
        due("copy of none out of none", x.copy(1, 0, 0, 6, 0), 0);
        due("copy of none into none", x.copy(0, 6, 1, 0, 0), 0);
        due("copy of one out of none", x.copy(1, 0, 0, 0, 1), Due.BEYOND);
        due("copy of one into none", x.copy(0, 0, 1, 0, 1), Due.BEYOND);
        due("copy of none behind none", x.copy(1, 1, 0, 0, 0), Due.BEYOND);
    }

    private static void copy(int from, int to, int n) {
        BustRest x = new BustRest();
        Due.numbers(x, 0, 8, 1, 2, 3, 4, 5, 6);
        boolean fits = from + n <= 6 && to + n <= 6;
        String copy = "copy(0, " + from + ", 0, " + to + ", " + n + ")";
        due(copy, x.copy(0, from, 0, to, n), fits ? n : Due.BEYOND);
        x.load(0);
        for (int i = 0; i < 6; i++) {
            boolean came = fits && i >= to && i < to + n;
            due(copy + ": number " + i, x.listed(i), came ? 1 + from + i - to : 1 + i);
        }
    }

    /** Promise 36: it ends at the first that isn't 0 to 12, or for which there is no place. */
    private static void loads() {
        for (int bad : new int[] {-1, 13, 127, -128}) {
            for (int at = 0; at <= 7; at++) {
                BustRest x = new BustRest();
                x.bequest(5, 7);
                int[] numbers = {0, 12, 1, 11, 2, 10, 3, 9};
                numbers[at] = bad;
                Due.numbers(x, 0, 8, numbers);
                int came = Math.min(at, 6);
                due("load() up to " + at, x.load(0), came);
                for (int i = 0; i < 6; i++) {
                    due("listed(" + i + ")", x.listed(i), i < came ? numbers[i] : i == 5 ? 7 : 12);
                }
            }
        }
        for (int size = 0; size <= 8; size++) {
            BustRest x = new BustRest();
            x.sheet(2, 32, size);
            due("load() of " + size, x.load(2), Math.min(6, size));
            due("listed(5)", x.listed(5), size < 6 ? 12 : 0);
        }
    }

    /** Promise 37: the place of the first that isn't so, from no number to one behind the last bust. */
    private static void judges() {
        BustRest x = Due.withKinds(0, 0, 0, 0, 0, 0, 0, 0);
        for (int size = 0; size <= 9; size++) {
            int[] numbers = new int[size];
            java.util.Arrays.fill(numbers, 20);
            Due.numbers(x, 0, 16, numbers);
            due("judge() of " + size, x.judge(0), size == 9 ? 9 : 0);
            for (int i = size - 1; i >= 0; i--) {
                x.write(0, i, 21);
                due("judge() of " + size + " from " + i, x.judge(0), 1 + i);
            }
        }
    }

    /** Promises 38 to 40: the latest is kept, it stays, nothing is kept at first and when it is torn. */
    private static void images() {
        BustRest x = new BustRest();
        due("undo() at first", x.undo(), Due.NONE);
        due("tear() at first", x.tear(), 0);
        due("image() of nothing", x.image(), 1);
        x.bust(0, 0);
        x.go(2);
        due("image() of the later", x.image(), 1);
        x.go(3);
        for (int i = 0; i < 3; i++) {
            due("undo() to the later", x.undo(), 2);
            due("count(1)", x.count(1), 1);
            x.bust(1, 1);
            x.go(1 + i);
        }
        due("tear()", x.tear(), 1);
        due("tear() again", x.tear(), 0);
        due("undo()", x.undo(), Due.NONE);
        due("day", x.now(0), 5);
        due("status(-1)", x.status(-1), 2);
        x.image();
        x.undo();
        due("status(3)", x.status(3), 2);
    }

    /** Promise 42: each finding counted by itself and in all, the one that status() itself answers from then on. */
    private static void statuses() {
        BustRest x = new BustRest();
        for (int i = 0; i < 5; i++) {
            due("status(7)", x.status(7), Due.BEYOND);
            due("status(0)", x.status(0), 2 * i + 1);
            due("status(-2)", x.status(-2), Due.BEYOND);
            due("status(-1)", x.status(-1), 2 * i + 2);
            for (int which = 1; which < 7; which++) {
                due("status(" + which + ")", x.status(which), 0);
            }
        }
        x.image();
        x.sheet(0, 8, -1);
        x.undo();
        due("undo() takes none back", x.status(6), 1);
        due("nor in all", x.status(-1), 11);
    }

    public static void main(String[] args) {
        voices();
        anyBySign();
        placeOfTheDay();
        chances();
        odds();
        tapes();
        goodUpToTheFault();
        spots();
        sheets();
        lowestBits();
        copies();
        loads();
        judges();
        images();
        statuses();
        DUE.end();
    }
}
