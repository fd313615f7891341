import java.util.function.Supplier;

/** Long drawn runs of calls, each answer held against the model's. */
public final class ModelTest {
    private static final int CALLS_BEFORE_DUMP = 400;

    private final Due due;
    private final int run;
    private final BustRest x = new BustRest();
    private final Model m = new Model();
    private long draws;

    private ModelTest(Due due, int run) {
        this.due = due;
        this.run = run;
        this.draws = run * 7919L + 17;
    }

    /** 0 to n - 1. */
    private int pick(int n) {
        draws = draws * 6364136223846793005L + 1442695040888963407L;
        return (int) ((draws >>> 33) % n);
    }

    /** Mostly low to high, now and then one beside it, or far off. */
    private int about(int low, int high) {
        int dice = pick(60);
        if (dice == 0) {
            return low - 1;
        }
        if (dice == 1) {
            return high + 1;
        }
        if (dice == 2) {
            int[] far = {Integer.MIN_VALUE, Integer.MAX_VALUE, -1000001, 4096, 1 << 30, 256};
            return far[pick(far.length)];
        }
        if (dice < 8) {
            return pick(2) == 0 ? low : high;
        }
        return low + pick(high - low + 1);
    }

    private int aBust() {
        return about(0, Math.max(0, (int) m.count(1) - 1));
    }

    private void call(String call, Supplier<Long> model, long got) {
        due.due("run " + run + " " + call, got, m.answer(model));
    }

    private String words(int items) {
        StringBuilder text = new StringBuilder();
        String[] kinds = {"bust", "poet", "stoic", "orator", "cicero", "torso", "homer"};
        for (int i = 0; i < items; i++) {
            text.append(i == 0 ? "" : pick(9) == 0 ? " ; " : ";");
            int what = pick(10);
            String gap = pick(3) == 0 ? "" : " ";
            if (what < 2) {
                text.append(what == 0 ? "bequest" : "store").append(gap).append(about(0, what == 0 ? 5 : 11))
                    .append(' ').append(about(0, what == 0 ? 12 : 99));
                continue;
            }
            text.append(kinds[pick(7)]).append(gap).append(about(0, 999));
            text.append(pick(2) == 0 ? gap + "has" + gap + about(0, 4095) : "");
            text.append(pick(3) == 0 ? gap + "at" + gap + about(0, 15) : "");
            text.append(pick(4) == 0 ? gap + "sealed" : "");
        }
        return text.toString();
    }

    private void feedText() {
        StringBuilder text = new StringBuilder(words(1 + pick(5)));
        if (pick(4) == 0) {
            String signs = " ;#aAz0909\t\u00ff\u0000;s";
            text.setCharAt(pick(text.length()), signs.charAt(pick(signs.length())));
        }
        if (pick(6) == 0) {
            text.setLength(pick(text.length()));
        }
        for (int i = 0; i < text.length(); i += 4) {
            int n = Math.min(4, text.length() - i);
            int number = pick(3) == 0 ? -1 : 0;
            for (int k = 0; k < n; k++) {
                number = number << 8 | text.charAt(i + k);
            }
            int bytes = number;
            call("feed(" + bytes + ", " + n + ")", () -> m.feed(bytes, n), x.feed(bytes, n));
        }
        call("text() of " + text, m::text, x.text());
    }

    private int valueFor(int what) {
        int[] most = {6, 999, 4095, 15, 99, 1, 1};
        if (what == 2 && pick(2) == 0) {
            return 2048 | pick(2048);
        }
        if (what == 1) {
            return about(20, 26);
        }
        return about(0, what >= 0 && what <= 6 ? most[what] : 9);
    }

    private void aBustCall() {
        int b = aBust();
        int part = about(0, 11);
        switch (pick(7)) {
            case 0, 1 -> {
                int what = about(0, 6);
                int v = what == 6 && pick(3) > 0 ? 0 : valueFor(what);
                call("change(" + b + ", " + what + ", " + v + ")", () -> m.change(b, what, v), x.change(b, what, v));
            }
            case 2 -> {
                int what = about(0, 10);
                call("of(" + b + ", " + what + ")", () -> m.of(b, what), x.of(b, what));
            }
            case 3 -> call("accepts(" + b + ", " + part + ")", () -> m.accepts(b, part), x.accepts(b, part));
            case 4 -> call("give(" + b + ", " + part + ")", () -> m.give(b, part), x.give(b, part));
            case 5 -> call("pathTo(" + b + ", " + part + ")", () -> m.pathTo(b, part), x.pathTo(b, part));
            default -> {
                int n = about(0, 17);
                int what = about(0, 1);
                call("odds(" + b + ", " + n + ", " + what + ")", () -> m.odds(b, n, what), x.odds(b, n, what));
            }
        }
    }

    private void aLibraryCall() {
        int i = about(0, 5);
        int part = about(0, 11);
        switch (pick(8)) {
            case 0, 1 -> {
                int told = about(0, 12);
                call("bequest(" + i + ", " + told + ")", () -> m.bequest(i, told), x.bequest(i, told));
            }
            case 2 -> call("listed(" + i + ")", () -> m.listed(i), x.listed(i));
            case 3 -> call("stored(" + part + ")", () -> m.stored(part), x.stored(part));
            case 4, 5 -> {
                int kind = about(0, 6);
                int date = pick(2) == 0 ? about(0, 999) : 20 + pick(5);
                call("bust(" + kind + ", " + date + ")", () -> m.bust(kind, date), x.bust(kind, date));
            }
            case 6 -> call("heir(" + part + ")", () -> m.heir(part), x.heir(part));
            default -> {
                int what = about(0, 7);
                call("now(" + what + ")", () -> m.now(what), x.now(what));
            }
        }
    }

    private void aDayCall() {
        int n = about(1, pick(3) == 0 ? 60 : 4);
        switch (pick(6)) {
            case 0, 1, 2 -> call("go(" + n + ")", () -> m.go(n), x.go(n));
            case 3 -> {
                int c = about(1, pick(3) == 0 ? 20 : 3);
                call("chance(" + c + ")", () -> m.chance(c), x.chance(c));
            }
            case 4 -> {
                int v = pick(Integer.MAX_VALUE) * (pick(2) * 2 - 1);
                call("seed(" + v + ")", () -> m.seed(v), x.seed(v));
            }
            default -> {
                int what = about(0, 7);
                call("count(" + what + ")", () -> m.count(what), x.count(what));
            }
        }
    }

    private void aLookAhead() {
        int b = aBust();
        int part = about(0, 11);
        int n = about(0, 100);
        switch (pick(5)) {
            case 0 -> {
                int[] whats = {2, 3, 4, 6, 10};
                int what = pick(8) == 0 ? about(0, 10) : whats[pick(5)];
                call("ahead(" + b + ", " + what + ", " + n + ")", () -> m.ahead(b, what, n), x.ahead(b, what, n));
            }
            case 1 -> call("left(" + n + ")", () -> m.left(n), x.left(n));
            case 2 -> call("when(" + b + ", " + part + ")", () -> m.when(b, part), x.when(b, part));
            case 3 -> call("leaves(" + b + ")", () -> m.leaves(b), x.leaves(b));
            default -> {
                int v = pick(8) == 0 ? about(0, 9999) : about(0, 140);
                call("voice(" + b + ", " + v + ")", () -> m.voice(b, v), x.voice(b, v));
            }
        }
    }

    private void anOrder() {
        int b = aBust();
        int part = about(0, 11);
        int n = about(0, 60);
        int few = about(0, 12);
        switch (pick(4)) {
            case 0 -> {
                int i = about(0, 5);
                call("orderFor(" + i + ", " + b + ", " + n + ")", () -> m.orderFor(i, b, n), x.orderFor(i, b, n));
            }
            case 1 -> call("dateFor(" + b + ", " + part + ", " + few + ")", () -> m.dateFor(b, part, few),
                x.dateFor(b, part, few));
            case 2 -> call("kindFor(" + b + ", " + n + ")", () -> m.kindFor(b, n), x.kindFor(b, n));
            default -> {
                int to = about(0, 20);
                call("seal(" + to + ")", () -> m.seal(to), x.seal(to));
            }
        }
    }

    private int aSheet() {
        return pick(3) == 0 ? about(0, 3) : pick(2);
    }

    private void aSheetCall() {
        int s = aSheet();
        int t = aSheet();
        int i = about(0, 7);
        switch (pick(7)) {
            case 0 -> {
                int bits = pick(10) == 0 ? about(0, 33) : 8 * new int[] {0, 1, 1, 2, 4, 4}[pick(6)];
                int n = about(0, pick(4) == 0 ? 40 : 8);
                call("sheet(" + s + ", " + bits + ", " + n + ")", () -> m.sheet(s, bits, n), x.sheet(s, bits, n));
            }
            case 1, 2 -> {
                int v = pick(3) == 0 ? pick(Integer.MAX_VALUE) - (1 << 30) : about(-1, 13);
                call("write(" + s + ", " + i + ", " + v + ")", () -> m.write(s, i, v), x.write(s, i, v));
            }
            case 3 -> {
                int to = about(0, 7);
                int n = about(0, 4);
                call("copy(" + s + ", " + i + ", " + t + ", " + to + ", " + n + ")", () -> m.copy(s, i, t, to, n),
                    x.copy(s, i, t, to, n));
            }
            case 4 -> call("load(" + s + ")", () -> m.load(s), x.load(s));
            case 5 -> call("judge(" + s + ")", () -> m.judge(s), x.judge(s));
            default -> voices(s);
        }
    }

    /** Writes into a sheet what the model says will be said, so that some of it fits. */
    private void voices(int s) {
        int b = aBust();
        int n = pick(5);
        call("sheet(" + s + ", 16, " + n + ")", () -> m.sheet(s, 16, n), x.sheet(s, 16, n));
        for (int i = 0; i < n; i++) {
            int day = i;
            int v = pick(4) == 0 ? -1 : (int) m.answerQuietly(() -> m.ahead(b, 10, day));
            call("write(" + s + ", " + day + ", " + v + ")", () -> m.write(s, day, v), x.write(s, day, v));
        }
        call("fits(" + s + ", " + b + ")", () -> m.fits(s, b), x.fits(s, b));
        call("kinds(" + s + ", " + b + ")", () -> m.kinds(s, b), x.kinds(s, b));
        int other = aSheet();
        call("fits(" + other + ", " + b + ")", () -> m.fits(other, b), x.fits(other, b));
        call("kinds(" + other + ", " + b + ")", () -> m.kinds(other, b), x.kinds(other, b));
    }

    /** Writes what the busts say, so that judge() has something to say yes to. */
    private void judged() {
        int n = Math.max(0, (int) m.count(1) - pick(2) + (pick(5) == 0 ? 2 : 0));
        call("sheet(3, 32, " + n + ")", () -> m.sheet(3, 32, n), x.sheet(3, 32, n));
        for (int i = 0; i < n; i++) {
            int b = i;
            int v = (int) m.answerQuietly(() -> m.of(b, 10)) + (pick(12) == 0 ? 1 : 0);
            call("write(3, " + b + ", " + v + ")", () -> m.write(3, b, v), x.write(3, b, v));
        }
        call("judge(3)", () -> m.judge(3), x.judge(3));
    }

    private void aSpotOrImage() {
        int spot = about(0, 9);
        switch (pick(8)) {
            case 0, 1 -> {
                int b = pick(5) == 0 ? -1 : aBust();
                call("hold(" + spot + ", " + b + ")", () -> m.hold(spot, b), x.hold(spot, b));
            }
            case 2, 3 -> {
                int kind = about(0, 6);
                call("as(" + spot + ", " + kind + ")", () -> m.as(spot, kind), x.as(spot, kind));
            }
            case 4 -> call("image()", m::image, x.image());
            case 5 -> call("undo()", m::undo, x.undo());
            case 6 -> {
                if (pick(3) == 0) {
                    call("tear()", m::tear, x.tear());
                } else {
                    call("wipe()", m::wipe, x.wipe());
                }
            }
            default -> {
                int which = about(-1, 6);
                call("status(" + which + ")", () -> m.status(which), x.status(which));
            }
        }
    }

    private void anyCalls() {
        switch (pick(16)) {
            case 0, 1, 2, 3 -> aBustCall();
            case 4, 5 -> aLibraryCall();
            case 6, 7 -> aDayCall();
            case 8, 9 -> aLookAhead();
            case 10, 11 -> anOrder();
            case 12, 13 -> aSheetCall();
            case 14 -> {
                if (pick(3) == 0) {
                    feedText();
                } else if (pick(3) == 0) {
                    judged();
                } else {
                    aLibraryCall();
                }
            }
            default -> aSpotOrImage();
        }
    }

    /** All that can be seen of the object. */
    private void dump() {
        for (int b = 0; b < 8; b++) {
            int bust = b;
            for (int w = 0; w < 7; w++) {
                int what = w;
                call("of(" + bust + ", " + what + ")", () -> m.of(bust, what), x.of(bust, what));
            }
        }
        for (int i = 0; i < 12; i++) {
            int at = i;
            call("stored(" + at + ")", () -> m.stored(at), x.stored(at));
            call("listed(" + at + ")", () -> m.listed(at), x.listed(at));
            call("as(" + at + ", 0)", () -> m.as(at, 0), x.as(at, 0));
            call("count(" + at + ")", () -> m.count(at), x.count(at));
        }
        for (int i = -1; i < 7; i++) {
            int which = i;
            call("status(" + which + ")", () -> m.status(which), x.status(which));
        }
    }

    private void go() {
        if (pick(2) == 0) {
            feedText();
        }
        for (int i = pick(9); i > 0; i--) {
            int kind = pick(7);
            int date = 20 + pick(6);
            call("bust(" + kind + ", " + date + ")", () -> m.bust(kind, date), x.bust(kind, date));
        }
        for (int i = 0; i < 6; i++) {
            int place = i;
            int told = pick(13);
            call("bequest(" + place + ", " + told + ")", () -> m.bequest(place, told), x.bequest(place, told));
        }
        for (int i = 0; i < CALLS_BEFORE_DUMP / 2; i++) {
            anyCalls();
        }
        dump();
    }

    public static void main(String[] args) {
        Due due = new Due("ModelTest");
        int runs = args.length > 0 ? Integer.parseInt(args[0]) : 200;
        for (int run = 0; run < runs; run++) {
            new ModelTest(due, run).go();
        }
        due.end();
    }
}
