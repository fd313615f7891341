/**
 * The sentences of the document's section "Terms" that name a boundary, each in a method of its own: the findings,
 * the busts, a day, the draws and the texts.
 */
public final class EdgesOfTermsTest {
    private static final Due DUE = new Due("EdgesOfTermsTest");
    private static final int FEET = 2048;

    private static void due(String call, long got, long want) {
        DUE.due(call, got, want);
    }

    /** "What seed() and count(6) tell, z, may be any int: that is no finding." */
    private static void anyIntIsNoFinding() {
        BustRest x = new BustRest();
        int before = 1;
        for (int z : new int[] {Due.BEYOND, Due.FULL, Due.KIND, Due.NONE, Due.STATE, Due.MISSING, Due.SIZE,
            Integer.MIN_VALUE, Integer.MAX_VALUE, 0, -1}) {
            due("seed(" + z + ")", x.seed(z), before);
            due("count(6)", x.count(6), z);
            before = z;
        }
        due("seed(1)", x.seed(1), -1);
        due("no finding", x.status(-1), 0);
    }

    /** "Quotients are cut": a third of the parts that it lacks, half of an orator's 80. */
    private static void quotients() {
        BustRest x = Due.withKinds(0, 4);
        for (int parts = 0; parts <= 12; parts++) {
            x.change(0, 2, (1 << parts) - 1);
            due("with " + parts + " parts it yearns", x.of(0, 7), (12 - parts) / 3);
        }
        due("a cicero leaves with", x.of(1, 8), 40);
    }

    /** "Of several that would do the least number counts." */
    private static void leastOfSeveral() {
        BustRest x = Due.withKinds(0, 0, 0, 0);
        for (int b = 0; b < 4; b++) {
            x.change(b, 1, 500);
            x.change(b, 3, 14);
        }
        due("heir(2)", x.heir(2), 0);
        due("now(5)", x.now(5), 0);
        due("orderFor(3, 2, 0)", x.orderFor(3, 2, 0), 0);
        x.change(2, 2, 4095);
        due("orderFor(3, 2, 60) with all parts", x.orderFor(3, 2, 60), 0);
        due("kindFor(2, 0): 393 by homer alone", x.kindFor(2, 0), 6);
        x.change(2, 2, 0);
        x.change(2, 1, 10);
        due("kindFor(2, 0): nought by all", x.kindFor(2, 0), 0);
        x.bequest(0, 2);
        x.go(1);
        due("the day's heir", x.of(0, 2), 7);
        due("nobody else", x.of(1, 2), 3);
    }

    /** "The door is at 15"; "it goes as many cells as its steps to the door, no farther". */
    private static void cells() {
        int[] steps = {1, 2, 1, 2, 2, 5, 2};
        for (int kind = 0; kind < 7; kind++) {
            for (int cell = 0; cell <= 15; cell++) {
                BustRest x = Due.withKinds(kind);
                x.change(0, 2, FEET);
                x.change(0, 3, cell);
                x.change(0, 4, 99);
                boolean out = cell + steps[kind] >= 15;
                String from = "kind " + kind + " from " + cell;
                due(from + " goes out", x.go(1), out ? 1 : 0);
                due(from + " is in", x.of(0, 3), Math.min(15, cell + steps[kind]));
                due(from + " is gone", x.of(0, 6), out ? 1 : 0);
            }
        }
    }

    /** "If yearning is what it leaves with or more then, it has part 11 and isn't sealed." */
    private static void whoWalks() {
        int[] leaves = {50, 40, 80, 80, 40, 99, 40};
        int all = 4095;
        int[] yearns = {0, 1, 0, 1, 0, 1, 2};
        for (int kind = 0; kind < 7; kind++) {
            for (int off = -2; off < 2 && leaves[kind] + off <= 99; off++) {
                BustRest x = Due.withKinds(kind);
                x.change(0, 2, all);
                x.change(0, 4, leaves[kind] + off);
                due("kind " + kind + ", " + off + " off: now(4)", x.now(4), off >= 0 ? 1 : 0);
                boolean walks = off + yearns[kind] >= 0;
                due("it walks", x.ahead(0, 3, 1) > 0 ? 1 : 0, walks ? 1 : 0);
                x.change(0, 5, 1);
                due("sealed: now(4)", x.now(4), 0);
                due("sealed: it walks", x.ahead(0, 3, 1), 0);
                x.change(0, 5, 0);
                x.change(0, 6, 1);
                due("gone: now(4)", x.now(4), 0);
                due("gone: it walks", x.ahead(0, 3, 1), 0);
                x.change(0, 6, 0);
                x.change(0, 2, all - FEET);
                due("without feet: now(4)", x.now(4), 0);
                due("without feet: it walks", x.ahead(0, 3, 1), 0);
            }
        }
    }

    /** "Yearning is what it yearns more (99 at most)." */
    private static void mostYearning() {
        for (int had = 88; had <= 99; had++) {
            BustRest x = Due.withKinds(6);
            x.change(0, 2, 0);
            x.change(0, 4, had);
            x.go(1);
            due("homer yearned " + had, x.of(0, 4), Math.min(99, had + 10));
            x.go(2);
            due("homer at last", x.of(0, 4), 99);
        }
    }

    /** "One for day modulo 6"; "12: none"; "with none to store (99 at most of it)". */
    private static void bequestsOfSixDays() {
        BustRest x = new BustRest();
        x.go(12);
        due("of no bequests nothing comes", x.now(2), 0);
        for (int i = 0; i < 6; i++) {
            x.bequest(i, 2 * i);
        }
        for (int day = 0; day < 13; day++) {
            x.go(1);
            for (int i = 0; i < 6; i++) {
                due("stored(" + 2 * i + ") behind " + day, x.stored(2 * i), (day - i + 6) / 6);
            }
        }
        Due.read(x, "store 4 98;store 6 99");
        x.go(6);
        due("stored(4) from 98", x.stored(4), 99);
        due("stored(6) from 99", x.stored(6), 99);
        due("stored(10)", x.stored(10), 3);
        x.go(6);
        due("stored(4) from 99", x.stored(4), 99);
    }

    /** "It comes to the bust of the least date (of several the least number) that isn't gone, hasn't it and accepts it." */
    private static void whoGetsIt() {
        BustRest x = Due.withKinds(0, 0, 0, 2, 0);
        int[] dates = {7, 0, 0, 0, 999};
        for (int b = 0; b < 5; b++) {
            x.change(b, 1, dates[b]);
        }
        x.change(3, 2, 16);
        x.bequest(0, 2);
        int[] order = {1, 2, 0, 4};
        for (int b : order) {
            due("heir(2)", x.heir(2), b);
            due("it hasn't", x.of(b, 2), 3);
            x.go(1);
            due("it has", x.of(b, 2), 7);
            x.go(5);
        }
        due("heir(2)", x.heir(2), Due.NONE);
        x.go(1);
        due("stored(2)", x.stored(2), 1);
        x.bequest(1, 5);
        x.go(1);
        due("a stoic that has 4 doesn't accept 5", x.of(3, 2), 16);
        due("stored(5)", x.stored(5), 1);
    }

    /** "Left is 1 more, 9999 at most": two on one day; the most lies behind more calls than the document counts. */
    private static void mostLeft() {
        BustRest x = Due.withKinds(5, 5, 5);
        int[] most = {9998, 9999, 9999};
        for (int i = 0; i < 3332; i++) {
            for (int b = 0; b < 3; b++) {
                outwards(x, b);
            }
            due("left", x.go(1), 3 * i + 3);
        }
        outwards(x, 0);
        outwards(x, 1);
        due("left(1) from 9996", x.left(1), 9998);
        x.go(1);
        for (int left : most) {
            due("left", x.now(1), left);
            outwards(x, 0);
            x.go(1);
        }
        outwards(x, 1);
        due("seal(1): left stays 9999, whoever goes", x.seal(1), 0);
    }

    private static void outwards(BustRest x, int b) {
        x.change(b, 2, FEET);
        x.change(b, 3, 13);
        x.change(b, 4, 99);
        x.change(b, 6, 0);
    }

    /** "Day is one more (99999 at most)": what will be behind the last day has its place of the list again and again. */
    private static void lastDay() {
        BustRest x = Due.withKinds(0);
        for (int i = 0; i < 1666; i++) {
            x.go(60);
        }
        x.change(0, 4, 0);
        due("go(40) from 99960", x.go(40), Due.STATE);
        due("day", x.now(0), 99960);
        due("yearning", x.of(0, 4), 0);
        due("go(38)", x.go(38), 0);
        due("go(2) from 99998", x.go(2), Due.STATE);
        due("chance(2) from 99998", x.chance(2), Due.STATE);
        due("z", x.count(6), 1);
        due("go(1)", x.go(1), 0);
        due("go(1) from 99999", x.go(1), Due.STATE);
        due("chance(1) from 99999", x.chance(1), Due.STATE);
        due("chance(0) from 99999", x.chance(0), Due.BEYOND);
        due("status(4)", x.status(4), 5);
        due("day", x.now(0), 99999);
        x.bequest(3, 2);
        x.bequest(4, 3);
        due("when(0, 2)", x.when(0, 2), 1);
        due("when(0, 3)", x.when(0, 3), Due.NONE);
    }

    /** "An int"; ">>> 8": z wraps round, and gives no number below 0. Each row: z, z then, the bequest, the bust. */
    private static void draws() {
        long[][] rows = new long[40][];
        long z = 987654321L;
        for (int i = 0; i < rows.length; i++) {
            long first = z * 1103515245L + 12345 & 0xffffffffL;
            long second = first * 1103515245L + 12345 & 0xffffffffL;
            rows[i] = new long[] {z, second, (first >> 8) % 13, (second >> 8) % 8};
            z = second * 69069 + 1 & 0xffffffffL;
        }
        for (long[] row : rows) {
            BustRest x = Due.withKinds(5, 5, 5, 5, 5, 5);
            x.seed((int) row[0]);
            x.chance(1);
            due("z behind " + row[0], x.count(6), (int) row[1]);
            due("the bequest behind " + row[0], x.listed(0), row[2]);
            for (int b = 0; b < 6; b++) {
                due("yearning of " + b + " behind " + row[0], x.of(b, 4), b == row[3] ? 11 : 1);
            }
        }
    }

    private static void fault(String text, int place) {
        BustRest x = Due.withKinds(0);
        due("text() of '" + text + "'", Due.read(x, text), -1 - place);
        due("one bust still", x.count(1), 1);
        due("empty then", x.count(5), 0);
    }

    private static void items(String text, int items) {
        BustRest x = new BustRest();
        due("text() of '" + text + "'", Due.read(x, text), items);
        due("empty then", x.count(5), 0);
    }

    /** "Tokens, each as long as can be"; "blanks may stand between". */
    private static void tokens() {
        items("bust7has9at3sealed;store0 1;bequest0 0", 3);
        items(" bust 7 has 9 at 3 sealed ; store 0 1 ; bequest 0 0 ", 3);
        fault("bustpoet 1", 0);
        fault("bus t 1", 0);
        fault("poet 1 0", 7);
        fault("bust 1 h as 3", 7);
        fault("bequest 12", 8);
        fault("bequest 1 2 3", 12);
        fault("bequest 00 1 1", 13);
        fault("store 1 100", 8);
        fault("bust 1 has 40951", 11);
        fault("bust 1 at 010 0", 14);
        items("bust 007 has 00003 at 015", 1);
    }

    /** "Numbers (digits, 9999 at most)", and each as told: date, has, a cell, a place, a bequest, a part, a store. */
    private static void numbers() {
        String[] good = {"bust 0", "bust 999", "bust 1 has 0", "bust 1 has 4095", "bust 1 at 0", "bust 1 at 15",
            "bequest 0 0", "bequest 5 12", "store 0 0", "store 11 99"};
        for (String text : good) {
            items(text, 1);
        }
        for (String far : new String[] {"9999", "10000", "65536", "4294967297", "18446744073709551617", "9".repeat(90)}) {
            fault("bust " + far, 5);
            fault("bust 1 has " + far, 11);
            fault("bust 1 at " + far, 10);
            fault("bequest " + far + " 1", 8);
            fault("bequest 1 " + far, 10);
            fault("store " + far + " 1", 6);
            fault("store 1 " + far, 8);
        }
        fault("bust 1000", 5);
        fault("bust 1 has 4096", 11);
        fault("bust 1 at 16", 10);
        fault("bequest 6 1", 8);
        fault("bequest 1 13", 10);
        fault("store 12 1", 6);
        fault("store 1 100", 8);
    }

    /** "A byte that begins no token": what text() answers to each byte between "bust 1" and "poet 2". */
    private static int between(int b) {
        if (b == ';') {
            return 2;
        }
        if (b >= '0' && b <= '9') {
            return -8;
        }
        return b == ' ' ? -8 : -7;
    }

    private static void everyByte() {
        for (int b = 0; b < 256; b++) {
            BustRest x = new BustRest();
            Due.feed(x, "bust 1");
            x.feed(b, 1);
            Due.feed(x, "poet 2");
            due("bust 1, byte " + b + ", poet 2", x.text(), between(b));
            due("busts", x.count(1), b == ';' ? 2 : 0);
        }
    }

    public static void main(String[] args) {
        anyIntIsNoFinding();
        quotients();
        leastOfSeveral();
        cells();
        whoWalks();
        mostYearning();
        bequestsOfSixDays();
        whoGetsIt();
        mostLeft();
        lastDay();
        draws();
        tokens();
        numbers();
        everyByte();
        DUE.end();
    }
}
