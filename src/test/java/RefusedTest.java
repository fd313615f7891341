import java.util.Arrays;
import java.util.function.Consumer;
import java.util.function.ToLongFunction;

/**
 * Every call that is refused, with each finding of its promise and with several at once: it answers the finding that
 * is asked first, one more of that finding is counted, and nothing else is another than in an object on which it
 * wasn't called. And every call that merely asks changes nothing at all.
 */
public final class RefusedTest {
    private static final Due DUE = new Due("RefusedTest");
    private static final int MIN = Integer.MIN_VALUE;
    private static final int MAX = Integer.MAX_VALUE;

    private static void none(BustRest x) {
    }

    private static void called(String call, Consumer<BustRest> ahead, ToLongFunction<BustRest> act, long want, int which) {
        BustRest x = Busy.library();
        BustRest y = Busy.library();
        ahead.accept(x);
        ahead.accept(y);
        DUE.due(call, act.applyAsLong(x), want);
        int[] got = Busy.status(x);
        int[] counted = Busy.status(y);
        if (which >= 0) {
            counted[0]++;
            counted[1 + which]++;
        }
        DUE.due(call + ": status() " + Arrays.toString(got), Arrays.equals(got, counted) ? 1 : 0, 1);
        DUE.due(call + ": nothing else", Busy.seen(x).equals(Busy.seen(y)) ? 1 : 0, 1);
    }

    private static void refused(String call, Consumer<BustRest> ahead, int finding, ToLongFunction<BustRest> act) {
        called(call, ahead, act, finding, Due.BEYOND - finding);
    }

    private static void refused(String call, int finding, ToLongFunction<BustRest> act) {
        refused(call, RefusedTest::none, finding, act);
    }

    private static void beyond(String call, ToLongFunction<BustRest> act) {
        refused(call, Due.BEYOND, act);
    }

    private static void asked(String call, long want, ToLongFunction<BustRest> act) {
        called(call, RefusedTest::none, act, want, -1);
    }

    private static void libraryAndBusts() {
        beyond("bequest(-1, 3)", x -> x.bequest(-1, 3));
        beyond("bequest(6, 3)", x -> x.bequest(6, 3));
        beyond("bequest(0, -1)", x -> x.bequest(0, -1));
        beyond("bequest(0, 13)", x -> x.bequest(0, 13));
        beyond("listed(-1)", x -> x.listed(-1));
        beyond("listed(6)", x -> x.listed(6));
        beyond("stored(-1)", x -> x.stored(-1));
        beyond("stored(12)", x -> x.stored(12));
        beyond("bust(-1, 0) where it is full", x -> x.bust(-1, 0));
        beyond("bust(7, 0) where it is full", x -> x.bust(7, 0));
        beyond("bust(0, -1) where it is full", x -> x.bust(0, -1));
        beyond("bust(0, 1000) where it is full", x -> x.bust(0, 1000));
        refused("bust(0, 0), the ninth", Due.FULL, x -> x.bust(0, 0));
        refused("bust(6, 999), the ninth", Due.FULL, x -> x.bust(6, 999));
        beyond("of(-1, 0)", x -> x.of(-1, 0));
        beyond("of(8, 0)", x -> x.of(8, 0));
        beyond("of(0, -1)", x -> x.of(0, -1));
        beyond("of(0, 11)", x -> x.of(0, 11));
        beyond("change(-1, 0, 1)", x -> x.change(-1, 0, 1));
        beyond("change(8, 0, 1)", x -> x.change(8, 0, 1));
        beyond("change(1, -1, 1)", x -> x.change(1, -1, 1));
        int[] most = {6, 999, 4095, 15, 99, 1, 1};
        for (int what = 0; what < 7; what++) {
            int w = what;
            beyond("change(1, " + what + ", -1)", x -> x.change(1, w, -1));
            beyond("change(1, " + what + ", above)", x -> x.change(1, w, most[w] + 1));
            beyond("change(1, " + what + ", MAX)", x -> x.change(1, w, MAX));
            beyond("change(1, " + what + ", MIN)", x -> x.change(1, w, MIN));
        }
        for (int what = 7; what < 11; what++) {
            int w = what;
            beyond("change(1, " + what + ", 1)", x -> x.change(1, w, 1));
        }
        beyond("accepts(8, 2)", x -> x.accepts(8, 2));
        beyond("accepts(1, 12)", x -> x.accepts(1, 12));
        beyond("heir(-1)", x -> x.heir(-1));
        beyond("heir(12)", x -> x.heir(12));
        refused("heir(0) that all have", x -> x.change(6, 2, 1), Due.NONE, x -> x.heir(0));
        beyond("give(8, 5)", x -> x.give(8, 5));
        beyond("give(-1, 5)", x -> x.give(-1, 5));
        beyond("give(0, 12)", x -> x.give(0, 12));
        beyond("give(3, 12) to one that is gone", x -> x.give(3, 12));
        refused("give(1, 2) that it has", Due.STATE, x -> x.give(1, 2));
        refused("give(3, 5) to one that is gone", Due.STATE, x -> x.give(3, 5));
        refused("give(0, 10) of which there is none", Due.STATE, x -> x.give(0, 10));
    }

    private static void daysAndWhatWillBe() {
        for (int n : new int[] {0, -1, 61, MIN, MAX}) {
            beyond("go(" + n + ")", x -> x.go(n));
        }
        beyond("now(-1)", x -> x.now(-1));
        beyond("now(8)", x -> x.now(8));
        beyond("ahead(-1, 2, 3)", x -> x.ahead(-1, 2, 3));
        beyond("ahead(8, 2, 3)", x -> x.ahead(8, 2, 3));
        for (int what : new int[] {-1, 0, 1, 5, 7, 8, 9, 11}) {
            beyond("ahead(1, " + what + ", 3)", x -> x.ahead(1, what, 3));
        }
        beyond("ahead(1, 2, -1)", x -> x.ahead(1, 2, -1));
        beyond("ahead(1, 2, 101)", x -> x.ahead(1, 2, 101));
        beyond("left(-1)", x -> x.left(-1));
        beyond("left(101)", x -> x.left(101));
        beyond("when(8, 2)", x -> x.when(8, 2));
        beyond("when(1, 12)", x -> x.when(1, 12));
        refused("when(2, 10) never", Due.NONE, x -> x.when(2, 10));
        beyond("leaves(-1)", x -> x.leaves(-1));
        beyond("leaves(8)", x -> x.leaves(8));
        refused("leaves(2), who is sealed", Due.NONE, x -> x.leaves(2));
        beyond("voice(8, 2)", x -> x.voice(8, 2));
        beyond("voice(1, -1)", x -> x.voice(1, -1));
        beyond("voice(1, 10000)", x -> x.voice(1, 10000));
        refused("voice(1, 9999) never", Due.NONE, x -> x.voice(1, 9999));
    }

    private static void whatToOrder() {
        beyond("orderFor(-1, 1, 3)", x -> x.orderFor(-1, 1, 3));
        beyond("orderFor(6, 1, 3)", x -> x.orderFor(6, 1, 3));
        beyond("orderFor(2, 8, 3)", x -> x.orderFor(2, 8, 3));
        beyond("orderFor(2, 1, -1)", x -> x.orderFor(2, 1, -1));
        beyond("orderFor(2, 1, 61)", x -> x.orderFor(2, 1, 61));
        beyond("dateFor(8, 2, 3)", x -> x.dateFor(8, 2, 3));
        beyond("dateFor(1, 12, 3)", x -> x.dateFor(1, 12, 3));
        beyond("dateFor(1, 2, -1)", x -> x.dateFor(1, 2, -1));
        beyond("dateFor(1, 2, 13)", x -> x.dateFor(1, 2, 13));
        refused("dateFor(1, 9, 12) never", Due.NONE, x -> x.dateFor(1, 9, 12));
        beyond("kindFor(8, 3)", x -> x.kindFor(8, 3));
        beyond("kindFor(1, -1)", x -> x.kindFor(1, -1));
        beyond("kindFor(1, 61)", x -> x.kindFor(1, 61));
        beyond("pathTo(8, 3)", x -> x.pathTo(8, 3));
        beyond("pathTo(1, 12)", x -> x.pathTo(1, 12));
        refused("pathTo(2, 6), no way", Due.NONE, x -> x.pathTo(2, 6));
        beyond("seal(-1)", x -> x.seal(-1));
        beyond("seal(21)", x -> x.seal(21));
        beyond("fits(-1, 1)", x -> x.fits(-1, 1));
        beyond("fits(4, 1)", x -> x.fits(4, 1));
        beyond("fits(4, 8)", x -> x.fits(4, 8));
        refused("fits(3, 1)", Due.MISSING, x -> x.fits(3, 1));
        refused("fits(3, 8), no bust either", Due.MISSING, x -> x.fits(3, 8));
        beyond("fits(0, 8)", x -> x.fits(0, 8));
        beyond("fits(0, -1)", x -> x.fits(0, -1));
        beyond("kinds(-1, 1)", x -> x.kinds(-1, 1));
        beyond("kinds(4, 1)", x -> x.kinds(4, 1));
        beyond("kinds(4, 8)", x -> x.kinds(4, 8));
        refused("kinds(3, 1)", Due.MISSING, x -> x.kinds(3, 1));
        refused("kinds(3, 8), no bust either", Due.MISSING, x -> x.kinds(3, 8));
        beyond("kinds(0, 8)", x -> x.kinds(0, 8));
        beyond("kinds(0, -1)", x -> x.kinds(0, -1));
    }

    private static void drawsAndTexts() {
        for (int n : new int[] {0, -1, 21, MIN, MAX}) {
            beyond("chance(" + n + ")", x -> x.chance(n));
        }
        beyond("odds(8, 2, 0)", x -> x.odds(8, 2, 0));
        beyond("odds(1, -1, 0)", x -> x.odds(1, -1, 0));
        beyond("odds(1, 18, 0)", x -> x.odds(1, 18, 0));
        beyond("odds(1, 2, -1)", x -> x.odds(1, 2, -1));
        beyond("odds(1, 2, 2)", x -> x.odds(1, 2, 2));
        for (int n : new int[] {0, -1, 5, MIN, MAX}) {
            beyond("feed(59, " + n + ")", x -> x.feed(59, n));
        }
        refused("feed(59, 3) behind 118", Due.FULL, x -> x.feed(59, 3));
        refused("feed(59, 4) behind 118", Due.FULL, x -> x.feed(59, 4));
        refused("feed(59, 1) behind 120", x -> x.feed(0x2020, 2), Due.FULL, x -> x.feed(59, 1));
        refused("feed(59, 5) behind 120", x -> x.feed(0x2020, 2), Due.BEYOND, x -> x.feed(59, 5));
    }

    private static void spotsAndSheets() {
        beyond("hold(-1, 1)", x -> x.hold(-1, 1));
        beyond("hold(10, 1)", x -> x.hold(10, 1));
        beyond("hold(10, -1)", x -> x.hold(10, -1));
        beyond("hold(0, -2)", x -> x.hold(0, -2));
        beyond("hold(0, 8)", x -> x.hold(0, 8));
        beyond("as(10, 0)", x -> x.as(10, 0));
        beyond("as(1, 7) of nothing", x -> x.as(1, 7));
        beyond("as(0, 7)", x -> x.as(0, 7));
        beyond("as(0, -1)", x -> x.as(0, -1));
        refused("as(1, 0) of nothing", Due.MISSING, x -> x.as(1, 0));
        refused("as(0, 1)", Due.KIND, x -> x.as(0, 1));
        beyond("sheet(4, 8, -1)", x -> x.sheet(4, 8, -1));
        beyond("sheet(-1, 8, 2)", x -> x.sheet(-1, 8, 2));
        beyond("sheet(0, 9, -1)", x -> x.sheet(0, 9, -1));
        beyond("sheet(0, 64, 2)", x -> x.sheet(0, 64, 2));
        refused("sheet(0, 8, -1)", Due.SIZE, x -> x.sheet(0, 8, -1));
        refused("sheet(0, 0, -1)", Due.SIZE, x -> x.sheet(0, 0, -1));
        refused("sheet(3, 0, -1)", Due.SIZE, x -> x.sheet(3, 0, -1));
        beyond("sheet(0, 16, 41)", x -> x.sheet(0, 16, 41));
        beyond("sheet(0, 0, 41)", x -> x.sheet(0, 0, 41));
        beyond("sheet(3, 0, 41)", x -> x.sheet(3, 0, 41));
        beyond("write(4, 0, 1)", x -> x.write(4, 0, 1));
        beyond("write(-1, 99, 1)", x -> x.write(-1, 99, 1));
        refused("write(3, 0, 1)", Due.MISSING, x -> x.write(3, 0, 1));
        refused("write(3, 99, 1)", Due.MISSING, x -> x.write(3, 99, 1));
        beyond("write(0, 6, 1)", x -> x.write(0, 6, 1));
        beyond("write(0, -1, 1)", x -> x.write(0, -1, 1));
    }

    private static void copies() {
        beyond("copy(4, 0, 1, 0, 1)", x -> x.copy(4, 0, 1, 0, 1));
        beyond("copy(-1, 0, 3, 0, -1)", x -> x.copy(-1, 0, 3, 0, -1));
        beyond("copy(0, 0, 4, 0, 1)", x -> x.copy(0, 0, 4, 0, 1));
        beyond("copy(3, 0, 4, 0, 1), one missing, too", x -> x.copy(3, 0, 4, 0, 1));
        refused("copy(3, 0, 0, 0, 1)", Due.MISSING, x -> x.copy(3, 0, 0, 0, 1));
        refused("copy(0, 0, 3, 0, 1)", Due.MISSING, x -> x.copy(0, 0, 3, 0, 1));
        refused("copy(3, -1, 3, 0, 99)", Due.MISSING, x -> x.copy(3, -1, 3, 0, 99));
        refused("copy(0, 0, 1, 0, 1)", Due.KIND, x -> x.copy(0, 0, 1, 0, 1));
        refused("copy(1, 0, 2, 0, 99)", Due.KIND, x -> x.copy(1, 0, 2, 0, 99));
        refused("copy(2, -1, 0, -1, -1)", Due.KIND, x -> x.copy(2, -1, 0, -1, -1));
        beyond("copy(0, -1, 0, 2, 1)", x -> x.copy(0, -1, 0, 2, 1));
        beyond("copy(0, 2, 0, -1, 1)", x -> x.copy(0, 2, 0, -1, 1));
        beyond("copy(0, 2, 0, 0, -1)", x -> x.copy(0, 2, 0, 0, -1));
        beyond("copy(0, 5, 0, 0, 2)", x -> x.copy(0, 5, 0, 0, 2));
        beyond("copy(0, 0, 0, 5, 2)", x -> x.copy(0, 0, 0, 5, 2));
        beyond("copy(0, 0, 0, 0, 7)", x -> x.copy(0, 0, 0, 0, 7));
        beyond("copy(0, MAX, 0, 0, 1)", x -> x.copy(0, MAX, 0, 0, 1));
        beyond("copy(0, 1, 0, 0, MAX)", x -> x.copy(0, 1, 0, 0, MAX));
        beyond("copy(0, 0, 0, MAX, MAX)", x -> x.copy(0, 0, 0, MAX, MAX));
        beyond("copy(0, MIN, 0, MIN, MIN)", x -> x.copy(0, MIN, 0, MIN, MIN));
        Consumer<BustRest> another = x -> Due.numbers(x, 3, 8, 2, 2);
        refused("copy(0, 0, 3, 0, 3) into two", another, Due.BEYOND, x -> x.copy(0, 0, 3, 0, 3));
        refused("copy(3, 0, 0, 0, 3) out of two", another, Due.BEYOND, x -> x.copy(3, 0, 0, 0, 3));
    }

    private static void loadsToStatus() {
        for (int s : new int[] {-1, 4, MIN, MAX}) {
            beyond("load(" + s + ")", x -> x.load(s));
            beyond("judge(" + s + ")", x -> x.judge(s));
        }
        refused("load(3)", Due.MISSING, x -> x.load(3));
        refused("judge(3)", Due.MISSING, x -> x.judge(3));
        refused("undo() of nothing", x -> x.tear(), Due.NONE, x -> x.undo());
        beyond("count(-1)", x -> x.count(-1));
        beyond("count(8)", x -> x.count(8));
        beyond("status(-2)", x -> x.status(-2));
        beyond("status(7)", x -> x.status(7));
        beyond("status(BEYOND)", x -> x.status(Due.BEYOND));
    }

    private static void calm() {
        asked("listed(4)", 7, x -> x.listed(4));
        asked("stored(2)", 99, x -> x.stored(2));
        asked("of(5, 4)", 99, x -> x.of(5, 4));
        asked("accepts(0, 3)", 0, x -> x.accepts(0, 3));
        asked("heir(10)", 1, x -> x.heir(10));
        asked("now(7)", Due.set(3, 5, 7), x -> x.now(7));
        asked("ahead(4, 2, 100)", 0, x -> x.ahead(4, 2, 100) > 0 ? 0 : 1);
        asked("left(100)", 1, x -> x.left(100) > 2 ? 1 : 0);
        asked("when(0, 11)", 1, x -> x.when(0, 0) + 1);
        asked("leaves(4)", 1, x -> x.leaves(4) > 0 ? 1 : 0);
        asked("voice(0, 30)", 1, x -> x.voice(0, 30) >= 0 ? 1 : 0);
        asked("orderFor(0, 4, 60)", 1, x -> x.orderFor(0, 4, 60) >= 0 ? 1 : 0);
        asked("dateFor(0, 0, 12)", 999, x -> x.dateFor(0, 0, 12));
        asked("kindFor(0, 60)", 6, x -> x.kindFor(0, 60));
        asked("pathTo(0, 11)", 1, x -> x.pathTo(0, 11) > 0 ? 1 : 0);
        asked("seal(20)", 1, x -> x.seal(20) > 0 ? 1 : 0);
        asked("fits(1, 0)", 0, x -> x.fits(1, 0));
        asked("kinds(1, 0)", 0, x -> x.kinds(1, 0));
        asked("odds(2, 17, 1)", 1, x -> x.odds(2, 17, 1) > 0 ? 1 : 0);
        asked("as(0, 2)", 4, x -> x.as(0, 2));
        asked("judge(0)", 1, x -> x.judge(0));
        asked("count(6)", -77, x -> x.count(6));
        asked("status(3)", 0, x -> x.status(3));
        asked("seed() of what it is", -77, x -> x.seed(-77));
        asked("bequest() of what it is", 7, x -> x.bequest(4, 7));
        asked("change() into what it is", 6, x -> x.change(6, 0, 6));
        asked("hold() of what it holds", 1, x -> x.hold(0, 4));
        asked("copy() of no numbers", 0, x -> x.copy(0, 0, 0, 0, 0));
        asked("copy() onto themselves", 6, x -> x.copy(0, 0, 0, 0, 6));
        asked("sheet() of one that is missing", 0, x -> x.sheet(3, 0, 40));
    }

    /** A text with a fault: like a tape that is wiped, and no finding. */
    private static void faulty(String text, int place) {
        BustRest x = Busy.library();
        BustRest y = Busy.library();
        x.wipe();
        y.wipe();
        Due.feed(x, text);
        Due.feed(y, text);
        y.wipe();
        DUE.due("text() of '" + text + "'", x.text(), -1 - place);
        DUE.due("text() of '" + text + "': no finding", Arrays.equals(Busy.status(x), Busy.status(y)) ? 1 : 0, 1);
        DUE.due("text() of '" + text + "': nothing else", Busy.seen(x).equals(Busy.seen(y)) ? 1 : 0, 1);
    }

    private static void faults() {
        faulty("", 0);
        faulty("bequest 0 5;store 3 9;bust 1", 22);
        faulty("bequest 0 5;store 3 9;#", 22);
        faulty("bequest 0 5;store 3 9;", 22);
        faulty("bequest 0 5;store 3 100", 20);
    }

    public static void main(String[] args) {
        libraryAndBusts();
        daysAndWhatWillBe();
        whatToOrder();
        drawsAndTexts();
        spotsAndSheets();
        copies();
        loadsToStatus();
        calm();
        faults();
        DUE.end();
    }
}
