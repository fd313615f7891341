/** Promises 11 to 17: days, what is now and what will be. */
public final class DaysTest {
    private static final Due DUE = new Due("DaysTest");
    private static final int BAD = Due.BEYOND;
    private static final int MIN = Integer.MIN_VALUE;
    private static final int MAX = Integer.MAX_VALUE;
    private static final int FEET = 2048;

    private static void due(String call, long got, long want) {
        DUE.due(call, got, want);
    }

    private static void bequestsOfDays() {
        BustRest x = Due.withKinds(0, 0);
        Due.read(x, "bequest 0 2;bequest 1 2;bequest 2 3;bequest 3 0;bequest 5 2;store 0 98;store 2 99");
        x.change(0, 1, 30);
        due("go(1)", x.go(1), 0);
        due("the one of the least date has it", x.of(1, 2), 7);
        due("the other hasn't", x.of(0, 2), 3);
        due("it yearns by what it has then", x.of(1, 4), 3);
        x.go(1);
        due("then the other", x.of(0, 2), 7);
        x.go(1);
        due("by date again", x.of(1, 2), 15);
        due("less yearning with more parts", x.of(1, 4), 3 + 3 + 2);
        x.go(1);
        due("to the store", x.stored(0), 99);
        x.go(2);
        due("99 at most", x.stored(2), 99);
        due("day", x.now(0), 6);
        x.go(4);
        due("99 at most of the next", x.stored(0), 99);
        due("place 0 came again", x.stored(2), 99);
    }

    /** Of a bust with yearning, parts, at a cell: where it stands behind a day. */
    private static BustRest walker(int kind, int yearning, int has, int cell) {
        BustRest x = Due.withKinds(kind);
        x.change(0, 2, has);
        x.change(0, 3, cell);
        x.change(0, 4, yearning);
        return x;
    }

    private static void walks() {
        BustRest x = walker(0, 46, 3 + FEET, 0);
        x.go(1);
        due("49 is too little", x.of(0, 3), 0);
        x = walker(0, 47, 3 + FEET, 0);
        x.go(1);
        due("50 is enough", x.of(0, 3), 1);
        x = walker(0, 90, 3, 0);
        x.go(1);
        due("not without feet", x.of(0, 3), 0);
        x = walker(0, 90, 3 + FEET, 0);
        x.change(0, 5, 1);
        x.go(1);
        due("not sealed", x.of(0, 3), 0);
        due("but it yearns", x.of(0, 4), 93);
        x = walker(5, 98, FEET, 0);
        x.go(1);
        due("99 at most", x.of(0, 4), 99);
        due("a torso goes five", x.of(0, 3), 5);
        x.go(1);
        due("99 still", x.of(0, 4), 99);
        due("ten", x.of(0, 3), 10);
        due("it goes out", x.go(1), 1);
        due("at the door", x.of(0, 3), 15);
        due("gone", x.of(0, 6), 1);
        due("once", x.go(5), 1);
        x = walker(6, 80, FEET + 1024, 0);
        x.go(1);
        due("homer with part 10 goes three", x.of(0, 3), 3);
        x = walker(5, 99, FEET, 12);
        due("no farther", x.go(1), 1);
        due("than the door", x.of(0, 3), 15);
        x = walker(0, 49, 1023, 0);
        x.bequest(0, 10);
        x.bequest(1, 11);
        x.change(0, 4, 50);
        x.go(1);
        due("no feet on day 0", x.of(0, 3), 0);
        x.go(1);
        due("it walks on the day on which the feet come", x.of(0, 3), 1);
    }

    private static void doors() {
        BustRest x = walker(0, 0, 3 + FEET, 15);
        due("one that waits at the door", x.go(1), 0);
        due("isn't gone", x.of(0, 6), 0);
        x.change(0, 4, 60);
        x.change(0, 5, 1);
        due("nor sealed", x.go(1), 0);
        x.change(0, 5, 0);
        due("but when it walks", x.go(1), 1);
        x.change(0, 6, 0);
        due("and once more", x.go(1), 2);
        x.bequest(3, 2);
        int yearning = x.of(0, 4);
        x.change(0, 4, 7);
        due("who is gone", x.go(6), 2);
        due("yearns no more", x.of(0, 4), 7);
        due("and gets nothing", x.of(0, 2), 3 + FEET);
        due("that goes to the store", x.stored(2), 1);
        due("it had yearned, thrice by three", yearning, 69);
    }

    private static void goEdges() {
        BustRest x = new BustRest();
        for (int n : new int[] {0, -1, 61, MIN, MAX}) {
            due("go(" + n + ")", x.go(n), BAD);
        }
        due("go(60)", x.go(60), 0);
        due("go(1)", x.go(1), 0);
        due("day", x.count(0), 61);
    }

    /** The document's bounds lie behind more calls than it counts; what the program does there is still looked at. */
    private static void lastDay() {
        BustRest x = new BustRest();
        for (int i = 0; i < 1666; i++) {
            x.go(60);
        }
        due("day", x.now(0), 99960);
        due("go(40)", x.go(40), Due.STATE);
        x.go(19);
        x.image();
        due("go(20) to the last day", x.go(20), 0);
        x.undo();
        due("chance(20) to the last day", x.chance(20), 0);
        due("the last day", x.now(0), 99999);
        due("go(1)", x.go(1), Due.STATE);
        due("chance(1)", x.chance(1), Due.STATE);
        due("chance(0)", x.chance(0), BAD);
        x.bust(5, 0);
        x.change(0, 2, FEET);
        due("what will be", x.leaves(0), 101);
        due("left(100)", x.left(100), 0);
    }

    private static void mostLeft() {
        BustRest x = Due.withKinds(5, 5, 5, 5, 5, 5, 5, 5);
        int left = 0;
        for (int i = 0; i < 1251; i++) {
            for (int b = 0; b < 8; b++) {
                x.change(b, 2, FEET);
                x.change(b, 3, 15);
                x.change(b, 4, 99);
                x.change(b, 6, 0);
            }
            left = Math.min(9999, left + 8);
            due("left of " + i, x.go(1), left);
        }
        due("left", x.count(2), 9999);
    }

    private static void nows() {
        BustRest x = Due.withKinds(0, 1, 2, 6, 5);
        x.change(0, 2, 4095);
        x.change(2, 2, 4095);
        x.change(4, 2, 4095);
        x.change(4, 6, 1);
        x.change(0, 4, 50);
        x.change(1, 4, 40);
        x.change(2, 4, 80);
        x.change(2, 5, 1);
        x.change(4, 4, 99);
        Due.read(x, "store 0 4;store 11 3");
        int[] want = {0, 0, 7, Due.set(0, 2), Due.set(0), 0, 170, Due.set(4)};
        for (int what = 0; what < 8; what++) {
            due("now(" + what + ")", x.now(what), want[what]);
        }
        x.change(1, 2, 3 + FEET);
        due("now(4) with feet", x.now(4), Due.set(0, 1));
        x.change(1, 4, 39);
        due("now(4) with less yearning", x.now(4), Due.set(0));
        x.change(0, 2, 4094);
        due("now(3) without the first", x.now(3), Due.set(2));
        x.change(0, 2, 2047);
        due("now(4) without the first", x.now(4), 0);
        x.change(0, 2, 4095);
        x.change(3, 2, 4095);
        due("now(5) homer", x.now(5), 3);
        x.change(3, 6, 1);
        due("now(5) without him", x.now(5), 0);
        x.change(0, 6, 1);
        due("now(5) the poet", x.now(5), 1);
        x.change(1, 2, 15);
        x.change(2, 2, 15);
        x.change(2, 4, 0);
        due("now(5) 43", x.now(5), 1);
        x.change(1, 0, 0);
        due("now(5) of two as loud", x.now(5), 1);
        x.change(1, 6, 1);
        x.change(2, 6, 1);
        due("now(5) of none", x.now(5), -1);
        due("now(7) all", x.now(7), 31);
        due("now(6) none", x.now(6), 0);
        due("count(4)", x.count(4), 5);
        for (int what : new int[] {-1, 8, MIN, MAX}) {
            due("now(" + what + ")", x.now(what), BAD);
        }
        BustRest y = walker(5, 99, FEET, 12);
        y.go(3);
        due("now(0)", y.now(0), 3);
        due("now(1)", y.now(1), 1);
    }

    private static void aheads() {
        BustRest x = walker(0, 40, 3, 0);
        Due.read(x, "bequest 0 2;bequest 1 3;bequest 2 11;bequest 3 4");
        x.bust(4, 5);
        int[] whats = {2, 3, 4, 6, 10};
        int[][] want = {{3, 0, 40, 0, 20}, {3, 0, 43, 0, 20}, {3, 0, 46, 0, 20}};
        for (int n = 0; n < 3; n++) {
            for (int w = 0; w < 5; w++) {
                due("ahead(0, " + whats[w] + ", " + n + ")", x.ahead(0, whats[w], n), want[n][w]);
            }
        }
        due("ahead(1, 2, 4)", x.ahead(1, 2, 4), 3 + 4 + 8 + 16 + FEET);
        due("ahead(0, 2, 9)", x.ahead(0, 2, 9), 3 + 4 + 8);
        due("ahead(0, 2, 10)", x.ahead(0, 2, 10), 3 + 4 + 8 + 16);
        due("ahead(0, 10, 10)", x.ahead(0, 10, 10), 50);
        for (int what : new int[] {-1, 0, 1, 5, 7, 8, 9, 11, MIN, MAX}) {
            due("ahead(0, " + what + ", 0)", x.ahead(0, what, 0), BAD);
        }
        for (int n : new int[] {-1, 101, MIN, MAX}) {
            due("ahead(0, 2, " + n + ")", x.ahead(0, 2, n), BAD);
            due("left(" + n + ")", x.left(n), BAD);
        }
        for (int b : new int[] {-1, 2, 8, MIN, MAX}) {
            due("ahead(" + b + ", 2, 0)", x.ahead(b, 2, 0), BAD);
            due("when(" + b + ", 2)", x.when(b, 2), BAD);
            due("leaves(" + b + ")", x.leaves(b), BAD);
            due("voice(" + b + ", 2)", x.voice(b, 2), BAD);
        }
        for (int part : new int[] {-1, 12, MIN, MAX}) {
            due("when(0, " + part + ")", x.when(0, part), BAD);
        }
        for (int v : new int[] {-1, 10000, MIN, MAX}) {
            due("voice(0, " + v + ")", x.voice(0, v), BAD);
        }
        due("day still", x.now(0), 0);
        due("parts still", x.of(0, 2), 3);
        due("store still", x.now(2), 0);
    }

    private static void firstDays() {
        BustRest x = walker(0, 40, 3 + FEET, 0);
        Due.read(x, "bequest 0 2;bequest 1 3;torso 99 at 14");
        due("when(0, 0)", x.when(0, 0), 0);
        due("when(0, 2)", x.when(0, 2), 1);
        due("when(0, 3)", x.when(0, 3), 2);
        due("when(1, 3)", x.when(1, 3), 8);
        due("when(0, 4)", x.when(0, 4), Due.NONE);
        due("leaves(0)", x.leaves(0), 5 + 14);
        due("left(18)", x.left(18), 0);
        due("left(19)", x.left(19), 1);
        due("left(100)", x.left(100), 1);
        due("ahead(0, 6, 18)", x.ahead(0, 6, 18), 0);
        due("ahead(0, 6, 19)", x.ahead(0, 6, 19), 1);
        due("ahead(0, 3, 100)", x.ahead(0, 3, 100), 15);
        due("leaves(1)", x.leaves(1), Due.NONE);
        due("voice(0, 0)", x.voice(0, 0), 0);
        due("voice(0, 30)", x.voice(0, 30), 0);
        due("voice(0, 31)", x.voice(0, 31), 1);
        due("voice(0, 50)", x.voice(0, 50), 2);
        due("voice(0, 51)", x.voice(0, 51), Due.NONE);
        due("voice(0, 9999)", x.voice(0, 9999), Due.NONE);
        x.change(1, 2, FEET + 1);
        x.change(1, 3, 0);
        due("leaves(1), behind more than 100 days", x.leaves(1), 99 + 2);
        x.change(1, 6, 1);
        due("leaves(1) that is gone", x.leaves(1), 0);
        due("left(0)", x.left(0), 0);
    }

    public static void main(String[] args) {
        bequestsOfDays();
        walks();
        doors();
        goEdges();
        lastDay();
        mostLeft();
        nows();
        aheads();
        firstDays();
        DUE.end();
    }
}
