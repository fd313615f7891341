/** Promises 25 to 30: bequests by draws, the tape and its texts. */
public final class DrawsTextsTest {
    private static final Due DUE = new Due("DrawsTextsTest");
    private static final int BAD = Due.BEYOND;
    private static final int MIN = Integer.MIN_VALUE;
    private static final int MAX = Integer.MAX_VALUE;

    private static void due(String call, long got, long want) {
        DUE.due(call, got, want);
    }

    /** From 1 the draws are 4310654, 9862832: rests 10 by 13 and 0 by 8. */
    private static void chances() {
        BustRest x = Due.withKinds(1, 5);
        for (int n : new int[] {0, -1, 21, MIN, MAX}) {
            due("chance(" + n + ")", x.chance(n), BAD);
        }
        due("z still", x.count(6), 1);
        due("chance(1)", x.chance(1), 0);
        due("z", x.count(6), -1770082073);
        due("listed(0)", x.listed(0), 10);
        due("the poet has it", x.of(0, 2), 3 + 1024);
        due("ten, and what it yearns", x.of(0, 4), 10 + 4);
        due("the torso", x.of(1, 4), 1);
        due("day", x.now(0), 1);
        x.seed(1);
        x.change(0, 4, 95);
        x.chance(1);
        due("99 at most", x.of(0, 4), 99);
        due("listed(1)", x.listed(1), 10);
        due("to the store", x.stored(10), 1);
        x.seed(1);
        x.change(0, 6, 1);
        x.change(0, 4, 0);
        x.chance(1);
        due("one that is gone, too", x.of(0, 4), 10);
        BustRest y = new BustRest();
        due("with nobody there", y.chance(20), 0);
        due("day", y.now(0), 20);
    }

    /** Ten by a draw make it walk on the same day. */
    private static void chanceThatLeaves() {
        BustRest x = Due.withKinds(5);
        x.change(0, 2, 2048);
        x.change(0, 3, 10);
        x.change(0, 4, 88);
        due("chance(1)", x.chance(1), 1);
        due("listed(0)", x.listed(0), 10);
        due("gone", x.of(0, 6), 1);
        due("cell", x.of(0, 3), 15);
    }

    private static void seeds() {
        BustRest x = new BustRest();
        due("seed(5)", x.seed(5), 1);
        due("seed(MIN)", x.seed(MIN), 5);
        due("count(6)", x.count(6), MIN);
        due("seed(LOW)", x.seed(BAD), MIN);
        due("seed(MAX)", x.seed(MAX), BAD);
        due("count(6)", x.count(6), MAX);
        due("no finding", x.status(-1), 0);
    }

    private static void odds(BustRest x, int n, long above, long below) {
        due("odds(0, " + n + ", 0)", x.odds(0, n, 0), above);
        due("odds(0, " + n + ", 1)", x.odds(0, n, 1), below);
    }

    private static void odds() {
        BustRest x = Due.withKinds(0);
        odds(x, 0, 1, 1);
        odds(x, 1, 1, 6);
        odds(x, 2, 1, 36);
        odds(x, 17, 1, 16926659444736L);
        x.change(0, 2, 31);
        odds(x, 17, 762939453125L, 2218611106740436992L);
        x.change(0, 2, 7);
        odds(x, 17, 1, 17179869184L);
        x.change(0, 2, 255);
        odds(x, 3, 8, 27);
        x.change(0, 2, 1023);
        odds(x, 17, 762939453125L, 16926659444736L);
        x.change(0, 2, 0);
        odds(x, 0, 1, 1);
        odds(x, 1, 0, 1);
        odds(x, 17, 0, 1);
        x.change(0, 2, 4095);
        odds(x, 17, 1, 1);
        int[][] wrong = {{-1, 0, 0}, {1, 0, 0}, {0, -1, 0}, {0, 18, 0}, {0, 0, -1}, {0, 0, 2}, {MIN, 0, 0},
            {MAX, 0, 0}, {0, MIN, 0}, {0, MAX, 0}, {0, 0, MIN}, {0, 0, MAX}};
        for (int[] w : wrong) {
            due("odds(" + w[0] + ", " + w[1] + ", " + w[2] + ")", x.odds(w[0], w[1], w[2]), BAD);
        }
    }

    private static void feeding() {
        BustRest x = new BustRest();
        for (int n : new int[] {0, -1, 5, MIN, MAX}) {
            due("feed(0, " + n + ")", x.feed(0, n), BAD);
        }
        due("feed 1 of 4", x.feed(0x01020362, 1), 1);
        due("feed 2 of 4", x.feed(0xffff7573, 2), 3);
        due("feed 3 of 4", x.feed(0x21742037, 3), 6);
        due("text()", x.text(), 1);
        due("date", x.of(0, 1), 7);
        due("empty then", x.count(5), 0);
        for (int i = 0; i < 29; i++) {
            due("feed", x.feed(0, 4), 4 * i + 4);
        }
        due("feed(0, 3)", x.feed(0, 3), 119);
        due("feed(0, 2)", x.feed(0, 2), Due.FULL);
        due("feed(0, 5)", x.feed(0, 5), BAD);
        due("feed(0, 1)", x.feed(0, 1), 120);
        due("feed(0, 1)", x.feed(0, 1), Due.FULL);
        due("count(5)", x.count(5), 120);
        due("wipe()", x.wipe(), 120);
        due("wipe()", x.wipe(), 0);
        due("feed(-1, 4)", x.feed(-1, 4), 4);
        due("text() of 255s", x.text(), -1);
    }

    private static void text(String text, int want) {
        BustRest x = new BustRest();
        int got = Due.read(x, text);
        due("text() of '" + text + "'", got, want);
        due("empty then", x.count(5), 0);
        due("no finding", x.status(-1), 0);
        if (want < 0) {
            due("nothing new of '" + text + "'", x.count(1) + x.count(3), 0);
            for (int i = 0; i < 6; i++) {
                due("the list still", x.listed(i), 12);
            }
        }
    }

    private static void faults() {
        text("", -1);
        text("   ", -4);
        text(";", -1);
        text("fame 1", -1);
        text("Bust 1", -1);
        text("12", -1);
        text("sealed", -1);
        text(" has 3", -2);
        text("bust", -5);
        text("bust ", -6);
        text("bust;", -5);
        text("bust bust", -6);
        text("bust 1000", -6);
        text("bust 99999999999999999999", -6);
        text("bust 4294967296", -6);
        text("busts 1", -1);
        text("bus 1", -1);
        text("fust 1", -1);
        text("bustz 1", -1);
        text("busta 1", -1);
        text("bust 1 las 1", -8);
        text("bust 1 poet 2", -8);
        text("bust 1;", -8);
        text("bust 1; ", -9);
        text("bust 1;;bust 2", -8);
        text("bust 1 has", -11);
        text("bust 1 has 4096", -12);
        text("bust 1 has 9999", -12);
        text("bust 1 has at 1", -12);
        text("bust 1 at 16", -11);
        text("bust 1 at 1 has 1", -13);
        text("bust 1 sealed at 1", -15);
        text("bust 1 sealed sealed", -15);
        text("bust 1 has 1 has 1", -14);
        text("bust 1\tat 1", -7);
        text("bust 1 #", -8);
        text("bust 1;store 0 1;#", -18);
        text("bust 1;bequest 0 13", -18);
        text("bequest 6 0", -9);
        text("bequest 0", -10);
        text("bequest 0 13", -11);
        text("bequest 0;1", -10);
        text("bequest 0 1 2", -13);
        text("store 12 0", -7);
        text("store 0 100", -9);
        text("store 0 1 sealed", -11);
        text("store has", -7);
        text("store", -6);
        text("bust-1", -5);
        text("bust 1,bust 2", -7);
        text("bust 1has1at1sealed2", -20);
    }

    private static void texts() {
        text("bust1", 1);
        text("  bust  1  ", 1);
        text("bust 1;bust 2;bequest 0 1;store 1 99", 4);
        text("bust0;bust0;bust0;bust0;bust0;bust0;bust0;bust0", 8);
        text("bust 0 at0sealed", 1);
        text("bust 0000000000000000999 has 0004095 sealed", 1);
        BustRest x = new BustRest();
        due("text()", Due.read(x, "bust 1;poet 2 has 0;stoic 3 at 15;orator 4 sealed;cicero 999 has 4095 at 2 sealed"), 5);
        due("text()", Due.read(x, "torso0 has17 sealed;homer5 at 7;bequest 5 0;bequest 0 12;store 11 99;store 0 1;store 0 2"), 7);
        int[][] want = {{0, 1, 3, 0, 0, 0, 0}, {1, 2, 0, 0, 0, 0, 0}, {2, 3, 3, 15, 0, 0, 0}, {3, 4, 3, 0, 0, 1, 0},
            {4, 999, 4095, 2, 0, 1, 0}, {5, 0, 17, 0, 0, 1, 0}, {6, 5, 3, 7, 0, 0, 0}};
        for (int b = 0; b < 7; b++) {
            for (int what = 0; what < 7; what++) {
                due("of(" + b + ", " + what + ")", x.of(b, what), want[b][what]);
            }
        }
        due("listed(5)", x.listed(5), 0);
        due("listed(0)", x.listed(0), 12);
        due("stored(11)", x.stored(11), 99);
        due("stored(0)", x.stored(0), 2);
        due("a ninth", Due.read(x, "bust 1;store 0 7;poet 2"), -18);
        due("nothing of it", x.count(1), 7);
        due("nothing of it", x.stored(0), 2);
        due("an eighth", Due.read(x, "bust 8"), 1);
        due("a ninth", Due.read(x, " bust 9"), -2);
        due("a ninth with a fault behind", Due.read(x, "bust 1000"), -1);
        due("a fault before the ninth", Due.read(x, "store 12 0;bust 9"), -7);
        due("no more busts", x.count(1), 8);
    }

    /** What stands on the tape behind a text, from an earlier one, is no part of it; nor is there a byte 120. */
    private static void endsOfTapes() {
        BustRest x = new BustRest();
        due("text()", Due.read(x, "bust 123;store 11 99"), 2);
        due("text() of less", Due.read(x, "bust 1"), 1);
        due("date", x.of(1, 1), 1);
        due("text() of a begun word", Due.read(x, "bus"), -1);
        due("text() of a word", Due.read(x, "store"), -6);
        due("text() of a blank", Due.read(x, "bust 7 "), 1);
        due("text() of a blank", Due.read(x, " "), -2);
        text(" ".repeat(120), -121);
        text("a".repeat(120), -1);
        text(";".repeat(120), -1);
        text("9".repeat(120), -1);
        text("bust 7" + " ".repeat(114), 1);
        text("bust 7;" + " ".repeat(113), -121);
        text("bust " + "0".repeat(114) + "7", 1);
        text(" ".repeat(107) + "bust 7 sealed", 1);
        text(" ".repeat(116) + "bust", -121);
        text(" ".repeat(119) + "#", -120);
    }

    public static void main(String[] args) {
        chances();
        chanceThatLeaves();
        seeds();
        odds();
        feeding();
        faults();
        texts();
        endsOfTapes();
        DUE.end();
    }
}
