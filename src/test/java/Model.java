import java.math.BigInteger;
import java.util.ArrayList;
import java.util.Arrays;
import java.util.Comparator;
import java.util.List;
import java.util.Optional;
import java.util.function.IntPredicate;
import java.util.function.Supplier;
import java.util.regex.Matcher;
import java.util.regex.Pattern;
import java.util.stream.IntStream;

/** The document once more, written the slow and literal way, to be held against the program. */
final class Model {
    /** A finding on its way out. */
    static final class Finding extends RuntimeException {
        private static final long serialVersionUID = 1;

        final int which;

        Finding(int which) {
            super(null, null, false, false);
            this.which = which;
        }
    }

    static class Being {
        int date, cell, yearning;
        boolean sealed, gone;
        boolean[] has = new boolean[12];

        int kind() { return 0; }

        int parts() { return (int) IntStream.range(0, 12).filter(p -> has[p]).count(); }

        boolean accepts(int p) { return p > 0 && has[p - 1]; }

        int yearns() { return (12 - parts()) / 3; }

        int leaves() { return 50; }

        int steps() { return 1; }

        int says() { return parts() * 10; }

        int hasSet() { return IntStream.range(0, 12).filter(p -> has[p]).map(p -> 1 << p).sum(); }

        Being of(int kind) {
            Being b = switch (kind) {
                case 0 -> new Being();
                case 1 -> new Poet();
                case 2 -> new Stoic();
                case 3 -> new Orator();
                case 4 -> new Cicero();
                case 5 -> new Torso();
                default -> new Homer();
            };
            b.date = date;
            b.cell = cell;
            b.yearning = yearning;
            b.sealed = sealed;
            b.gone = gone;
            b.has = has.clone();
            return b;
        }
    }

    static class Poet extends Being {
        int kind() { return 1; }

        boolean accepts(int p) { return super.accepts(p) || p % 2 == 0; }

        int yearns() { return super.yearns() + 1; }

        int leaves() { return super.leaves() - 10; }

        int steps() { return 2 * super.steps(); }

        int says() { return super.says() + IntStream.range(0, 12).filter(p -> has[p]).max().orElse(0); }
    }

    static final class Homer extends Poet {
        int kind() { return 6; }

        boolean accepts(int p) { return super.accepts(p) && !(p > 6); }

        int yearns() { return 2 * super.yearns(); }

        int steps() { return super.steps() + (has[10] ? 1 : 0); }

        int says() { return 3 * super.says(); }
    }

    static class Stoic extends Being {
        int kind() { return 2; }

        boolean accepts(int p) { return super.accepts(p) && p != 5; }

        int yearns() { return has[8] ? 0 : super.yearns(); }

        int leaves() { return super.leaves() + 30; }

        int says() { return Math.max(0, super.says() - yearning); }
    }

    static class Orator extends Stoic {
        int kind() { return 3; }

        boolean accepts(int p) { return super.accepts(p) || p == 3; }

        int yearns() { return super.yearns() + 1; }

        int steps() { return super.steps() + 1; }

        int says() { return super.says() + (has[3] ? 7 : 0) + (has[4] ? 7 : 0); }
    }

    static final class Cicero extends Orator {
        int kind() { return 4; }

        boolean accepts(int p) { return true; }

        int yearns() { return Math.max(0, super.yearns() - (has[3] ? 1 : 0) - (has[4] ? 1 : 0)); }

        int leaves() { return super.leaves() / 2; }

        int says() { return super.says() + date % 10; }
    }

    static final class Torso extends Being {
        int kind() { return 5; }

        boolean accepts(int p) { return p >= 2 && p <= 7; }

        int yearns() { return 1; }

        int leaves() { return 99; }

        int steps() { return 5; }

        int says() { return has[0] ? super.says() : 0; }
    }

    static final class World {
        int day = 0, left = 0, z = 1;
        int[] list = {12, 12, 12, 12, 12, 12};
        int[] store = new int[12];
        int[] spots = {-1, -1, -1, -1, -1, -1, -1, -1, -1, -1};
        List<Being> busts = new ArrayList<>();

        World again() {
            World w = new World();
            w.day = day;
            w.left = left;
            w.z = z;
            w.list = list.clone();
            w.store = store.clone();
            w.spots = spots.clone();
            for (Being b : busts) {
                w.busts.add(b.of(b.kind()));
            }
            return w;
        }

        Optional<Being> heir(int p) {
            return busts.stream().filter(b -> !b.gone && !b.has[p] && b.accepts(p))
                .min(Comparator.comparingInt(b -> b.date));
        }

        World day() {
            int p = list[day % 6];
            if (p != 12) {
                Optional<Being> heir = heir(p);
                if (heir.isPresent()) {
                    heir.get().has[p] = true;
                } else if (store[p] < 99) {
                    store[p]++;
                }
            }
            for (Being b : busts) {
                if (b.gone) {
                    continue;
                }
                b.yearning = Math.min(99, b.yearning + b.yearns());
                if (b.yearning >= b.leaves() && b.has[11] && !b.sealed) {
                    b.cell = Math.min(15, b.cell + b.steps());
                    if (b.cell == 15) {
                        b.gone = true;
                        left = Math.min(9999, left + 1);
                    }
                }
            }
            day = Math.min(99999, day + 1);
            return this;
        }

        World days(int n) {
            for (int i = 0; i < n; i++) {
                day();
            }
            return this;
        }

        int draw() {
            z = z * 1103515245 + 12345;
            return z >>> 8;
        }

        int setOf(IntPredicate which) {
            return IntStream.range(0, busts.size()).filter(which).map(i -> 1 << i).sum();
        }
    }

    World w = new World();
    World kept = null;
    StringBuilder tape = new StringBuilder();
    int[][] sheets = new int[4][];
    int[] bits = new int[4];
    int[] findings = new int[7];

    long answer(Supplier<Long> act) {
        try {
            return act.get();
        } catch (Finding f) {
            findings[-1000001 - f.which]++;
            return f.which;
        }
    }

    /** The answer, with no finding counted. */
    long answerQuietly(Supplier<Long> act) {
        try {
            return act.get();
        } catch (Finding f) {
            return f.which;
        }
    }

    static void ask(boolean good, int finding) {
        if (!good) {
            throw new Finding(finding);
        }
    }

    static boolean in(int v, int low, int high) {
        return low <= v && v <= high;
    }

    Being the(int bust) {
        ask(in(bust, 0, w.busts.size() - 1), Due.BEYOND);
        return w.busts.get(bust);
    }

    long bequest(int i, int part) {
        ask(in(i, 0, 5) && in(part, 0, 12), Due.BEYOND);
        int was = w.list[i];
        w.list[i] = part;
        return was;
    }

    long listed(int i) {
        ask(in(i, 0, 5), Due.BEYOND);
        return w.list[i];
    }

    long stored(int part) {
        ask(in(part, 0, 11), Due.BEYOND);
        return w.store[part];
    }

    static Being made(int kind, int date) {
        Being b = new Being();
        b.has[0] = true;
        b.has[1] = true;
        b.date = date;
        return b.of(kind);
    }

    long bust(int kind, int date) {
        ask(in(kind, 0, 6) && in(date, 0, 999), Due.BEYOND);
        ask(w.busts.size() < 8, Due.FULL);
        w.busts.add(made(kind, date));
        return w.busts.size() - 1;
    }

    static int told(Being b, int what) {
        return switch (what) {
            case 0 -> b.kind();
            case 1 -> b.date;
            case 2 -> b.hasSet();
            case 3 -> b.cell;
            case 4 -> b.yearning;
            case 5 -> b.sealed ? 1 : 0;
            case 6 -> b.gone ? 1 : 0;
            case 7 -> b.yearns();
            case 8 -> b.leaves();
            case 9 -> b.steps();
            default -> b.says();
        };
    }

    long of(int bust, int what) {
        the(bust);
        ask(in(what, 0, 10), Due.BEYOND);
        return told(the(bust), what);
    }

    long change(int bust, int what, int v) {
        Being b = the(bust);
        ask(in(what, 0, 6), Due.BEYOND);
        int[] most = {6, 999, 4095, 15, 99, 1, 1};
        ask(in(v, 0, most[what]), Due.BEYOND);
        int was = told(b, what);
        switch (what) {
            case 0 -> w.busts.set(bust, b.of(v));
            case 1 -> b.date = v;
            case 2 -> {
                for (int p = 0; p < 12; p++) {
                    b.has[p] = (v & 1 << p) != 0;
                }
            }
            case 3 -> b.cell = v;
            case 4 -> b.yearning = v;
            case 5 -> b.sealed = v == 1;
            default -> b.gone = v == 1;
        }
        return was;
    }

    long accepts(int bust, int part) {
        Being b = the(bust);
        ask(in(part, 0, 11), Due.BEYOND);
        return !b.has[part] && b.accepts(part) ? 1 : 0;
    }

    long heir(int part) {
        ask(in(part, 0, 11), Due.BEYOND);
        Optional<Being> heir = w.heir(part);
        ask(heir.isPresent(), Due.NONE);
        return w.busts.indexOf(heir.get());
    }

    long give(int bust, int part) {
        Being b = the(bust);
        ask(in(part, 0, 11), Due.BEYOND);
        ask(!b.has[part] && !b.gone && w.store[part] > 0, Due.STATE);
        w.store[part]--;
        b.has[part] = true;
        return b.hasSet();
    }

    long go(int n) {
        ask(in(n, 1, 60), Due.BEYOND);
        ask(w.day + n <= 99999, Due.STATE);
        return w.days(n).left;
    }

    long now(int what) {
        ask(in(what, 0, 7), Due.BEYOND);
        List<Being> all = w.busts;
        switch (what) {
            case 0: return w.day;
            case 1: return w.left;
            case 2: return Arrays.stream(w.store).sum();
            case 3: return w.setOf(i -> !all.get(i).gone && all.get(i).parts() == 12);
            case 4: return w.setOf(i -> all.get(i).yearning >= all.get(i).leaves() && all.get(i).has[11]
                && !all.get(i).sealed && !all.get(i).gone);
            case 5: return IntStream.range(0, all.size()).filter(i -> !all.get(i).gone).boxed()
                .min(Comparator.comparingInt(i -> -all.get(i).says())).orElse(-1);
            case 6: return all.stream().filter(b -> !b.gone).mapToInt(b -> b.yearning).sum();
            default: return w.setOf(i -> all.get(i).gone);
        }
    }

    long ahead(int bust, int what, int n) {
        the(bust);
        ask(what == 2 || what == 3 || what == 4 || what == 6 || what == 10, Due.BEYOND);
        ask(in(n, 0, 100), Due.BEYOND);
        return told(w.again().days(n).busts.get(bust), what);
    }

    long left(int n) {
        ask(in(n, 0, 100), Due.BEYOND);
        return w.again().days(n).left;
    }

    interface Asked {
        boolean so(Being b);
    }

    long fewest(int bust, Asked asked) {
        for (int n = 0; n <= 200; n++) {
            if (asked.so(w.again().days(n).busts.get(bust))) {
                return n;
            }
        }
        throw new Finding(Due.NONE);
    }

    long when(int bust, int part) {
        the(bust);
        ask(in(part, 0, 11), Due.BEYOND);
        return fewest(bust, b -> b.has[part]);
    }

    long leaves(int bust) {
        the(bust);
        return fewest(bust, b -> b.gone);
    }

    long voice(int bust, int v) {
        the(bust);
        ask(in(v, 0, 9999), Due.BEYOND);
        return fewest(bust, b -> b.says() >= v);
    }

    long orderFor(int i, int bust, int n) {
        the(bust);
        ask(in(i, 0, 5) && in(n, 0, 60), Due.BEYOND);
        int[] parts = new int[12];
        for (int p = 0; p < 12; p++) {
            World t = w.again();
            t.list[i] = p;
            parts[p] = t.days(n).busts.get(bust).parts();
        }
        int most = Arrays.stream(parts).max().getAsInt();
        return IntStream.range(0, 12).filter(p -> parts[p] == most).min().getAsInt();
    }

    long dateFor(int bust, int part, int n) {
        the(bust);
        ask(in(part, 0, 11) && in(n, 0, 12), Due.BEYOND);
        for (int date = 999; date >= 0; date--) {
            World t = w.again();
            t.busts.get(bust).date = date;
            if (t.days(n).busts.get(bust).has[part]) {
                return date;
            }
        }
        throw new Finding(Due.NONE);
    }

    long kindFor(int bust, int n) {
        the(bust);
        ask(in(n, 0, 60), Due.BEYOND);
        int[] says = new int[7];
        for (int k = 0; k < 7; k++) {
            World t = w.again();
            t.busts.set(bust, t.busts.get(bust).of(k));
            says[k] = t.days(n).busts.get(bust).says();
        }
        int most = Arrays.stream(says).max().getAsInt();
        return IntStream.range(0, 7).filter(k -> says[k] == most).min().getAsInt();
    }

    static Comparator<Integer> fewestThenLeast() {
        return Comparator.<Integer>comparingInt(Integer::bitCount).thenComparingInt(s -> s);
    }

    long pathTo(int bust, int part) {
        Being b = the(bust);
        ask(in(part, 0, 11), Due.BEYOND);
        return IntStream.range(0, 4096).filter(set -> {
            Being t = b.of(b.kind());
            for (int p = 0; p < 12; p++) {
                if ((set & 1 << p) != 0 && !t.has[p] && t.accepts(p)) {
                    t.has[p] = true;
                }
            }
            return t.has[part];
        }).boxed().min(fewestThenLeast()).orElseThrow(() -> new Finding(Due.NONE));
    }

    long seal(int n) {
        ask(in(n, 0, 20), Due.BEYOND);
        return IntStream.range(0, 1 << w.busts.size()).filter(set -> {
            World t = w.again();
            for (int i = 0; i < t.busts.size(); i++) {
                t.busts.get(i).sealed |= (set & 1 << i) != 0;
            }
            return t.days(n).left == w.left;
        }).boxed().min(fewestThenLeast()).orElseThrow(() -> new Finding(Due.NONE));
    }

    void askSheet(int s) {
        ask(in(s, 0, 3), Due.BEYOND);
        ask(sheets[s] != null, Due.MISSING);
    }

    boolean says(World start, int bust, int[] voices) {
        for (int i = 0; i < voices.length; i++) {
            if (voices[i] != -1 && start.again().days(i).busts.get(bust).says() != voices[i]) {
                return false;
            }
        }
        return true;
    }

    long fits(int s, int bust) {
        askSheet(s);
        the(bust);
        return IntStream.range(0, 13).filter(told -> {
            World t = w.again();
            t.list[t.day % 6] = told;
            return says(t, bust, sheets[s]);
        }).count();
    }

    long kinds(int s, int bust) {
        askSheet(s);
        the(bust);
        return IntStream.range(0, 7).filter(k -> {
            World t = w.again();
            t.busts.set(bust, t.busts.get(bust).of(k));
            return says(t, bust, sheets[s]);
        }).map(k -> 1 << k).sum();
    }

    long chance(int n) {
        ask(in(n, 1, 20), Due.BEYOND);
        ask(w.day + n <= 99999, Due.STATE);
        for (int i = 0; i < n; i++) {
            int first = w.draw();
            int second = w.draw();
            w.list[w.day % 6] = first % 13;
            if (second % 8 < w.busts.size()) {
                Being b = w.busts.get(second % 8);
                b.yearning = Math.min(99, b.yearning + 10);
            }
            w.day();
        }
        return w.left;
    }

    long odds(int bust, int n, int what) {
        Being b = the(bust);
        ask(in(n, 0, 17) && in(what, 0, 1), Due.BEYOND);
        BigInteger above = BigInteger.valueOf(b.parts()).pow(n);
        BigInteger below = BigInteger.valueOf(12).pow(n);
        return (what == 0 ? above : below).divide(above.gcd(below)).longValueExact();
    }

    long seed(int v) {
        int was = w.z;
        w.z = v;
        return was;
    }

    long feed(int bytes, int n) {
        ask(in(n, 1, 4), Due.BEYOND);
        ask(tape.length() + n <= 120, Due.FULL);
        String all = String.format("%08x", bytes).substring(8 - 2 * n);
        for (int i = 0; i < n; i++) {
            tape.append((char) Integer.parseInt(all.substring(2 * i, 2 * i + 2), 16));
        }
        return tape.length();
    }

    long wipe() {
        int had = tape.length();
        tape.setLength(0);
        return had;
    }

    private static final Pattern TOKEN = Pattern.compile("[a-z]+|[0-9]+|;| +|.", Pattern.DOTALL);

    /** A text's tokens, with their places; the last is "", behind all bytes. */
    static final class Tokens {
        final List<String> words = new ArrayList<>();
        final List<Integer> places = new ArrayList<>();
        int at = 0;

        Tokens(String text) {
            Matcher m = TOKEN.matcher(text);
            while (m.find()) {
                if (m.group().charAt(0) != ' ') {
                    words.add(m.group());
                    places.add(m.start());
                }
            }
            words.add("");
            places.add(text.length());
        }

        String peek() {
            return words.get(at);
        }

        Integer number(int most) {
            String t = words.get(at);
            if (t.isEmpty() || !Character.isDigit(t.charAt(0)) || new BigInteger(t).compareTo(BigInteger.valueOf(most)) > 0) {
                return null;
            }
            at++;
            return Integer.parseInt(new BigInteger(t).toString());
        }
    }

    long text() {
        Tokens t = new Tokens(tape.toString());
        World trial = w.again();
        tape.setLength(0);
        int items = 0;
        do {
            if (items > 0) {
                t.at++;
            }
            if (!item(t, trial)) {
                return -1 - t.places.get(t.at);
            }
            items++;
        } while (t.peek().equals(";"));
        if (!t.peek().isEmpty()) {
            return -1 - t.places.get(t.at);
        }
        w = trial;
        return items;
    }

    static boolean item(Tokens t, World trial) {
        String word = t.peek();
        int kind = List.of("bust", "poet", "stoic", "orator", "cicero", "torso", "homer").indexOf(word);
        if (kind >= 0 && trial.busts.size() == 8 || kind < 0 && !word.equals("bequest") && !word.equals("store")) {
            return false;
        }
        t.at++;
        Integer first = t.number(kind >= 0 ? 999 : word.equals("bequest") ? 5 : 11);
        if (first == null) {
            return false;
        }
        if (kind < 0) {
            Integer second = t.number(word.equals("bequest") ? 12 : 99);
            if (second != null) {
                (word.equals("bequest") ? trial.list : trial.store)[first] = second;
            }
            return second != null;
        }
        Being b = made(kind, first);
        trial.busts.add(b);
        return more(t, b);
    }

    static boolean more(Tokens t, Being b) {
        if (t.peek().equals("has")) {
            t.at++;
            Integer has = t.number(4095);
            if (has == null) {
                return false;
            }
            for (int p = 0; p < 12; p++) {
                b.has[p] = (has & 1 << p) != 0;
            }
        }
        if (t.peek().equals("at")) {
            t.at++;
            Integer cell = t.number(15);
            if (cell == null) {
                return false;
            }
            b.cell = cell;
        }
        if (t.peek().equals("sealed")) {
            t.at++;
            b.sealed = true;
        }
        return true;
    }

    long hold(int spot, int bust) {
        ask(in(spot, 0, 9) && in(bust, -1, w.busts.size() - 1), Due.BEYOND);
        w.spots[spot] = bust;
        return 1;
    }

    long as(int spot, int kind) {
        ask(in(spot, 0, 9) && in(kind, 0, 6), Due.BEYOND);
        ask(w.spots[spot] != -1, Due.MISSING);
        Class<?>[] kinds = {Being.class, Poet.class, Stoic.class, Orator.class, Cicero.class, Torso.class, Homer.class};
        ask(kinds[kind].isInstance(w.busts.get(w.spots[spot])), Due.KIND);
        return w.spots[spot];
    }

    long sheet(int s, int b, int n) {
        ask(in(s, 0, 3) && (b == 0 || b == 8 || b == 16 || b == 32), Due.BEYOND);
        ask(n >= 0, Due.SIZE);
        ask(n <= 40, Due.BEYOND);
        bits[s] = b;
        sheets[s] = b == 0 ? null : new int[n];
        return b == 0 ? 0 : n;
    }

    long write(int s, int i, int v) {
        askSheet(s);
        ask(in(i, 0, sheets[s].length - 1), Due.BEYOND);
        sheets[s][i] = v << (32 - bits[s]) >> (32 - bits[s]);
        return 1;
    }

    long copy(int s, int from, int t, int to, int n) {
        ask(in(s, 0, 3) && in(t, 0, 3), Due.BEYOND);
        ask(sheets[s] != null && sheets[t] != null, Due.MISSING);
        ask(bits[s] == bits[t], Due.KIND);
        ask(from >= 0 && to >= 0 && n >= 0, Due.BEYOND);
        ask((long) from + n <= sheets[s].length && (long) to + n <= sheets[t].length, Due.BEYOND);
        int[] were = sheets[s].clone();
        for (int i = 0; i < n; i++) {
            sheets[t][to + i] = were[from + i];
        }
        return n;
    }

    long load(int s) {
        askSheet(s);
        int came = 0;
        while (came < 6 && came < sheets[s].length && in(sheets[s][came], 0, 12)) {
            w.list[came] = sheets[s][came];
            came++;
        }
        return came;
    }

    long judge(int s) {
        askSheet(s);
        return IntStream.range(0, sheets[s].length)
            .filter(i -> i >= w.busts.size() || w.busts.get(i).says() != sheets[s][i]).map(i -> i + 1).findFirst().orElse(0);
    }

    long image() {
        kept = w.again();
        return 1;
    }

    long undo() {
        ask(kept != null, Due.NONE);
        w = kept.again();
        return w.day;
    }

    long tear() {
        int was = kept == null ? 0 : 1;
        kept = null;
        return was;
    }

    long count(int what) {
        ask(in(what, 0, 7), Due.BEYOND);
        return switch (what) {
            case 0 -> w.day;
            case 1 -> w.busts.size();
            case 2 -> w.left;
            case 3 -> Arrays.stream(w.store).sum();
            case 4 -> w.busts.stream().filter(b -> b.gone).count();
            case 5 -> tape.length();
            case 6 -> w.z;
            default -> Arrays.stream(w.spots).filter(b -> b != -1).count();
        };
    }

    long status(int which) {
        ask(in(which, -1, 6), Due.BEYOND);
        return which == -1 ? Arrays.stream(findings).sum() : findings[which];
    }
}
