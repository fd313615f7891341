/** A library of busts that wait for their parts: its days, its bequests, what will be and what to order. */
public final class BustRest {
    private static final int BEYOND = -1000001;
    private static final int FULL = BEYOND - 1;
    private static final int OTHER_KIND = BEYOND - 2;
    private static final int NONE = BEYOND - 3;
    private static final int STATE = BEYOND - 4;
    private static final int MISSING = BEYOND - 5;
    private static final int SIZE = BEYOND - 6;
    private static final int FINDINGS = 7;

    private static final int PARTS = 12;
    private static final int LAST_PART = 11;
    private static final int ALL_PARTS = 4095;
    private static final int ARMS = 8 + 16;
    private static final int PLACES = 6;
    private static final int LAST_PLACE = 5;
    private static final int NO_PART = 12;
    private static final int BEQUESTS = 13;
    private static final int MOST_STORED = 99;
    private static final int MOST_YEARNING = 99;
    private static final int YEARNING_BY_DRAW = 10;
    private static final int DOOR = 15;
    private static final int MOST_LEFT = 9999;
    private static final int MOST_DAY = 99999;
    private static final int LATEST_DATE = 999;
    private static final int MOST_VOICE = 9999;
    private static final int MOST_BUSTS = 8;
    private static final int SPOTS = 10;
    private static final int SHEETS = 4;
    private static final int MOST_NUMBERS = 40;
    private static final int MOST_BYTES = 120;
    private static final int FARTHEST_DAY = 200;
    private static final int ANY = -1;

    private static final int BUST = 0;
    private static final int POET = 1;
    private static final int STOIC = 2;
    private static final int ORATOR = 3;
    private static final int CICERO = 4;
    private static final int TORSO = 5;
    private static final int HOMER = 6;
    private static final int KINDS = 7;
    private static final int LAST_KIND = 6;
    /** The kind that each kind stands right under; BUST stands under itself, so that a way up never leaves the kinds. */
    private static final int[] KIND_ABOVE = {BUST, BUST, BUST, STOIC, ORATOR, BUST, POET};

    private static final int KIND = 0;
    private static final int DATE = 1;
    private static final int HAS = 2;
    private static final int CELL = 3;
    private static final int YEARNING = 4;
    private static final int SEALED = 5;
    private static final int GONE = 6;
    private static final int YEARNS = 7;
    private static final int LEAVES = 8;
    private static final int STEPS = 9;
    private static final int SAYS = 10;
    /** The most that each of KIND to GONE may become. */
    private static final int[] MOST = {LAST_KIND, LATEST_DATE, ALL_PARTS, DOOR, MOST_YEARNING, 1, 1};

    private static final int END = 0;
    private static final int WORD = 1;
    private static final int NUMBER = 2;
    private static final int SIGN = 3;
    private static final int STRANGE = 4;
    /** Above every number that a text may tell: longer rows of digits stay here, so that none wraps round. */
    private static final int TOO_GREAT = 10000;

    private final Library library = new Library();
    /** Where days are tried out and texts are read, so that the library itself stays as it is. */
    private final Library trial = new Library();
    private final Library image = new Library();
    private boolean imageKept = false;
    private final Tape tape = new Tape();
    private final TextReader reader = new TextReader(tape, trial);
    private final Sheet[] sheets = new Sheet[SHEETS];
    private final int[] findings = new int[FINDINGS];

    public BustRest() {
        for (int s = 0; s < SHEETS; s++) {
            sheets[s] = new Sheet();
        }
    }

    // ---- library, busts

    public int bequest(int i, int part) {
        if (!within(i, LAST_PLACE) || !within(part, NO_PART)) {
            return found(BEYOND);
        }
        int was = library.list[i];
        library.list[i] = part;
        return was;
    }

    public int listed(int i) {
        return within(i, LAST_PLACE) ? library.list[i] : found(BEYOND);
    }

    public int stored(int part) {
        return within(part, LAST_PART) ? library.store[part] : found(BEYOND);
    }

    public int bust(int kind, int date) {
        if (!within(kind, LAST_KIND) || !within(date, LATEST_DATE)) {
            return found(BEYOND);
        }
        int number = library.addBust(kind, date);
        return number < 0 ? found(FULL) : number;
    }

    public int of(int bust, int what) {
        if (!isBust(bust) || !within(what, SAYS)) {
            return found(BEYOND);
        }
        return library.busts[bust].told(what);
    }

    public int change(int bust, int what, int v) {
        if (!isBust(bust) || !within(what, GONE) || !within(v, MOST[what])) {
            return found(BEYOND);
        }
        int was = library.busts[bust].told(what);
        library.busts[bust].become(what, v);
        return was;
    }

    public int accepts(int bust, int part) {
        if (!isBust(bust) || !within(part, LAST_PART)) {
            return found(BEYOND);
        }
        return library.busts[bust].takes(part) ? 1 : 0;
    }

    public int heir(int part) {
        if (!within(part, LAST_PART)) {
            return found(BEYOND);
        }
        int heir = library.heirOf(part);
        return heir < 0 ? found(NONE) : heir;
    }

    public int give(int bust, int part) {
        if (!isBust(bust) || !within(part, LAST_PART)) {
            return found(BEYOND);
        }
        Bust given = library.busts[bust];
        if (given.hasPart(part) || given.gone == 1 || library.store[part] == 0) {
            return found(STATE);
        }
        library.store[part]--;
        given.receive(part);
        return given.has;
    }

    // ---- days

    public int go(int n) {
        if (n < 1 || n > 60) {
            return found(BEYOND);
        }
        if (library.day + n > MOST_DAY) {
            return found(STATE);
        }
        library.passDays(n);
        return library.left;
    }

    public int now(int what) {
        switch (what) {
            case 0: return library.day;
            case 1: return library.left;
            case 2: return library.storedTogether();
            case 3: return library.completeBusts();
            case 4: return library.walkers();
            case 5: return library.loudest();
            case 6: return library.yearningTogether();
            case 7: return library.goneBusts();
            default: return found(BEYOND);
        }
    }

    // ---- what will be

    public int ahead(int bust, int what, int n) {
        boolean told = what == HAS || what == CELL || what == YEARNING || what == GONE || what == SAYS;
        if (!isBust(bust) || !told || !within(n, 100)) {
            return found(BEYOND);
        }
        beginTrial();
        trial.passDays(n);
        return trial.busts[bust].told(what);
    }

    public int left(int n) {
        if (!within(n, 100)) {
            return found(BEYOND);
        }
        beginTrial();
        trial.passDays(n);
        return trial.left;
    }

    public int when(int bust, int part) {
        if (!isBust(bust) || !within(part, LAST_PART)) {
            return found(BEYOND);
        }
        beginTrial();
        for (int days = 0; days <= FARTHEST_DAY; days++) {
            if (trial.busts[bust].hasPart(part)) {
                return days;
            }
            trial.passDay();
        }
        return found(NONE);
    }

    public int leaves(int bust) {
        if (!isBust(bust)) {
            return found(BEYOND);
        }
        return daysUntil(bust, GONE, 1);
    }

    public int voice(int bust, int v) {
        if (!isBust(bust) || !within(v, MOST_VOICE)) {
            return found(BEYOND);
        }
        return daysUntil(bust, SAYS, v);
    }

    // ---- what to order

    public int orderFor(int i, int bust, int n) {
        if (!within(i, LAST_PLACE) || !isBust(bust) || !within(n, 60)) {
            return found(BEYOND);
        }
        int best = 0;
        int most = -1;
        for (int part = 0; part < PARTS; part++) {
            beginTrial();
            trial.list[i] = part;
            trial.passDays(n);
            int parts = Integer.bitCount(trial.busts[bust].has);
            if (parts > most) {
                best = part;
                most = parts;
            }
        }
        return best;
    }

    public int dateFor(int bust, int part, int n) {
        if (!isBust(bust) || !within(part, LAST_PART) || !within(n, 12)) {
            return found(BEYOND);
        }
        for (int date = LATEST_DATE; date >= 0; date--) {
            if (library.mayDifferAt(bust, date) && hasByDate(bust, date, part, n)) {
                return date;
            }
        }
        return found(NONE);
    }

    public int kindFor(int bust, int n) {
        if (!isBust(bust) || !within(n, 60)) {
            return found(BEYOND);
        }
        int best = 0;
        int loudest = -1;
        for (int kind = 0; kind < KINDS; kind++) {
            beginTrial();
            trial.busts[bust].kind = kind;
            trial.passDays(n);
            int says = trial.busts[bust].says();
            if (says > loudest) {
                best = kind;
                loudest = says;
            }
        }
        return best;
    }

    public int pathTo(int bust, int part) {
        if (!isBust(bust) || !within(part, LAST_PART)) {
            return found(BEYOND);
        }
        if (library.busts[bust].hasPart(part)) {
            return 0;
        }
        beginTrial();
        int path = trial.busts[bust].pathUpTo(part);
        return path == 0 ? found(NONE) : path;
    }

    public int seal(int n) {
        if (!within(n, 20)) {
            return found(BEYOND);
        }
        int sets = 1 << library.number;
        for (int size = 0; size <= library.number; size++) {
            for (int set = 0; set < sets; set++) {
                if (Integer.bitCount(set) == size && keepsAll(set, n)) {
                    return set;
                }
            }
        }
        return found(NONE);
    }

    // ---- told voices

    public int fits(int s, int bust) {
        int finding = findingOfVoices(s, bust);
        if (finding != 0) {
            return found(finding);
        }
        int count = 0;
        for (int told = 0; told < BEQUESTS; told++) {
            beginTrial();
            trial.list[trial.placeToday()] = told;
            if (trialSays(bust, sheets[s])) {
                count++;
            }
        }
        return count;
    }

    public int kinds(int s, int bust) {
        int finding = findingOfVoices(s, bust);
        if (finding != 0) {
            return found(finding);
        }
        int set = 0;
        for (int kind = 0; kind < KINDS; kind++) {
            beginTrial();
            trial.busts[bust].kind = kind;
            if (trialSays(bust, sheets[s])) {
                set |= 1 << kind;
            }
        }
        return set;
    }

    // ---- bequests by draws

    public int chance(int n) {
        if (n < 1 || n > 20) {
            return found(BEYOND);
        }
        if (library.day + n > MOST_DAY) {
            return found(STATE);
        }
        for (int i = 0; i < n; i++) {
            library.passDayByDraws();
        }
        return library.left;
    }

    public long odds(int bust, int n, int what) {
        if (!isBust(bust) || !within(n, 17) || !within(what, 1)) {
            return found(BEYOND);
        }
        int had = Integer.bitCount(library.busts[bust].has);
        int above = had;
        int below = PARTS;
        for (int d = PARTS; d > 1; d--) {
            if (above % d == 0 && below % d == 0) {
                above /= d;
                below /= d;
            }
        }
        return power(what == 0 ? above : below, n);
    }

    public int seed(int v) {
        int was = library.z;
        library.z = v;
        return was;
    }

    // ---- texts

    public int feed(int bytes, int n) {
        if (n < 1 || n > 4) {
            return found(BEYOND);
        }
        if (tape.length + n > MOST_BYTES) {
            return found(FULL);
        }
        for (int i = n - 1; i >= 0; i--) {
            tape.append((bytes >>> (8 * i)) & 255);
        }
        return tape.length;
    }

    public int wipe() {
        int had = tape.length;
        tape.length = 0;
        return had;
    }

    public int text() {
        beginTrial();
        int items = reader.readText();
        tape.length = 0;
        if (items > 0) {
            library.copyFrom(trial);
        }
        return items;
    }

    // ---- spots, sheets

    public int hold(int spot, int bust) {
        if (!within(spot, SPOTS - 1) || bust != -1 && !isBust(bust)) {
            return found(BEYOND);
        }
        library.spots[spot] = bust;
        return 1;
    }

    public int as(int spot, int kind) {
        if (!within(spot, SPOTS - 1) || !within(kind, LAST_KIND)) {
            return found(BEYOND);
        }
        int held = library.spots[spot];
        if (!isBust(held)) {
            return found(MISSING);
        }
        return library.busts[held].isA(kind) ? held : found(OTHER_KIND);
    }

    public int sheet(int s, int bits, int n) {
        if (!isSheet(s) || bits != 0 && bits != 8 && bits != 16 && bits != 32) {
            return found(BEYOND);
        }
        if (n < 0) {
            return found(SIZE);
        }
        if (n > MOST_NUMBERS) {
            return found(BEYOND);
        }
        sheets[s].begin(bits, n);
        return sheets[s].size;
    }

    public int write(int s, int i, int v) {
        int finding = findingOfSheet(s);
        if (finding != 0) {
            return found(finding);
        }
        if (!within(i, sheets[s].size - 1)) {
            return found(BEYOND);
        }
        sheets[s].put(i, v);
        return 1;
    }

    public int copy(int s, int from, int t, int to, int n) {
        if (!isSheet(s) || !isSheet(t)) {
            return found(BEYOND);
        }
        if (sheets[s].isMissing() || sheets[t].isMissing()) {
            return found(MISSING);
        }
        if (sheets[s].bits != sheets[t].bits) {
            return found(OTHER_KIND);
        }
        if (!sheets[s].spans(from, n) || !sheets[t].spans(to, n)) {
            return found(BEYOND);
        }
        System.arraycopy(sheets[s].numbers, from, sheets[t].numbers, to, n);
        return n;
    }

    public int load(int s) {
        int finding = findingOfSheet(s);
        if (finding != 0) {
            return found(finding);
        }
        int most = Math.min(sheets[s].size, PLACES);
        for (int i = 0; i < most; i++) {
            int number = sheets[s].numbers[i];
            if (!within(number, NO_PART)) {
                return i;
            }
            library.list[i] = number;
        }
        return most;
    }

    public int judge(int s) {
        int finding = findingOfSheet(s);
        if (finding != 0) {
            return found(finding);
        }
        for (int i = 0; i < sheets[s].size; i++) {
            if (!isBust(i) || library.busts[i].says() != sheets[s].numbers[i]) {
                return 1 + i;
            }
        }
        return 0;
    }

    // ---- images

    public int image() {
        image.copyFrom(library);
        imageKept = true;
        return 1;
    }

    public int undo() {
        if (!imageKept) {
            return found(NONE);
        }
        library.copyFrom(image);
        return library.day;
    }

    public int tear() {
        int was = imageKept ? 1 : 0;
        imageKept = false;
        return was;
    }

    public int count(int what) {
        switch (what) {
            case 0: return library.day;
            case 1: return library.number;
            case 2: return library.left;
            case 3: return library.storedTogether();
            case 4: return Integer.bitCount(library.goneBusts());
            case 5: return tape.length;
            case 6: return library.z;
            case 7: return library.spotsTaken();
            default: return found(BEYOND);
        }
    }

    public int status(int which) {
        if (which < -1 || which >= FINDINGS) {
            return found(BEYOND);
        }
        if (which >= 0) {
            return findings[which];
        }
        int all = 0;
        for (int i = 0; i < FINDINGS; i++) {
            all += findings[i];
        }
        return all;
    }

    // ---- what the calls share

    private static boolean within(int v, int most) {
        return v >= 0 && v <= most;
    }

    private static long power(long base, int n) {
        long power = 1;
        for (int i = 0; i < n; i++) {
            power *= base;
        }
        return power;
    }

    /** Every finding goes out through here, for status() counts them. */
    private int found(int finding) {
        int which = BEYOND - finding;
        if (within(which, FINDINGS - 1)) {
            findings[which]++;
        }
        return finding;
    }

    private boolean isBust(int b) {
        return b >= 0 && b < library.number;
    }

    private boolean isSheet(int s) {
        return within(s, SHEETS - 1);
    }

    /** 0: there is such a sheet. */
    private int findingOfSheet(int s) {
        if (!isSheet(s)) {
            return BEYOND;
        }
        return sheets[s].isMissing() ? MISSING : 0;
    }

    /** The bust is asked for behind the sheet: a missing sheet tells first. */
    private int findingOfVoices(int s, int bust) {
        int finding = findingOfSheet(s);
        if (finding != 0) {
            return finding;
        }
        return isBust(bust) ? 0 : BEYOND;
    }

    private void beginTrial() {
        trial.copyFrom(library);
    }

    private int daysUntil(int bust, int what, int least) {
        beginTrial();
        for (int days = 0; days <= FARTHEST_DAY; days++) {
            if (trial.busts[bust].told(what) >= least) {
                return days;
            }
            trial.passDay();
        }
        return found(NONE);
    }

    private boolean hasByDate(int bust, int date, int part, int n) {
        beginTrial();
        trial.busts[bust].date = date;
        trial.passDays(n);
        return trial.busts[bust].hasPart(part);
    }

    private boolean keepsAll(int set, int n) {
        beginTrial();
        for (int b = 0; b < trial.number; b++) {
            if ((set >> b & 1) == 1) {
                trial.busts[b].sealed = 1;
            }
        }
        trial.passDays(n);
        return trial.left == library.left;
    }

    private boolean trialSays(int bust, Sheet voices) {
        for (int i = 0; i < voices.size; i++) {
            if (i > 0) {
                trial.passDay();
            }
            int told = voices.numbers[i];
            if (told != ANY && told != trial.busts[bust].says()) {
                return false;
            }
        }
        return true;
    }

    /** One bust, and what its kind makes of it. */
    private static final class Bust {
        private int kind;
        private int date;
        private int has;
        private int cell;
        private int yearning;
        private int sealed;
        private int gone;

        /** Each bust begins by this, also where another one of its number was before an image came back. */
        private void begin(int ofKind, int ofDate) {
            kind = ofKind;
            date = ofDate;
            has = 3;
            cell = 0;
            yearning = 0;
            sealed = 0;
            gone = 0;
        }

        private void copyFrom(Bust other) {
            kind = other.kind;
            date = other.date;
            has = other.has;
            cell = other.cell;
            yearning = other.yearning;
            sealed = other.sealed;
            gone = other.gone;
        }

        private int told(int what) {
            switch (what) {
                case KIND: return kind;
                case DATE: return date;
                case HAS: return has;
                case CELL: return cell;
                case YEARNING: return yearning;
                case SEALED: return sealed;
                case GONE: return gone;
                case YEARNS: return yearnsMore();
                case LEAVES: return leavesWith();
                case STEPS: return stepsInADay();
                default: return says();
            }
        }

        private void become(int what, int v) {
            switch (what) {
                case KIND: kind = v; break;
                case DATE: date = v; break;
                case HAS: has = v; break;
                case CELL: cell = v; break;
                case YEARNING: yearning = v; break;
                case SEALED: sealed = v; break;
                case GONE: gone = v; break;
                default: break;
            }
        }

        private boolean isA(int wanted) {
            int of = kind;
            for (int i = 0; i < KINDS; i++) {
                if (of == wanted) {
                    return true;
                }
                of = KIND_ABOVE[of];
            }
            return false;
        }

        private boolean hasPart(int part) {
            return (has >> part & 1) == 1;
        }

        private void receive(int part) {
            has |= 1 << part;
        }

        private int greatestPart() {
            for (int part = LAST_PART; part > 0; part--) {
                if (hasPart(part)) {
                    return part;
                }
            }
            return 0;
        }

        private boolean takes(int part) {
            if (hasPart(part)) {
                return false;
            }
            boolean asBust = part > 0 && hasPart(part - 1);
            boolean asPoet = asBust || part % 2 == 0;
            boolean asStoic = asBust && part != 5;
            switch (kind) {
                case POET: return asPoet;
                case STOIC: return asStoic;
                case ORATOR: return asStoic || part == 3;
                case CICERO: return true;
                case TORSO: return part >= 2 && part <= 7;
                case HOMER: return asPoet && part <= 6;
                default: return asBust;
            }
        }

        private int yearnsMore() {
            int asBust = (PARTS - Integer.bitCount(has)) / 3;
            int asPoet = asBust + 1;
            int asStoic = hasPart(8) ? 0 : asBust;
            int asOrator = asStoic + 1;
            switch (kind) {
                case POET: return asPoet;
                case STOIC: return asStoic;
                case ORATOR: return asOrator;
                case CICERO: return Math.max(0, asOrator - Integer.bitCount(has & ARMS));
                case TORSO: return 1;
                case HOMER: return 2 * asPoet;
                default: return asBust;
            }
        }

        private int leavesWith() {
            int asBust = 50;
            int asPoet = asBust - 10;
            int asStoic = asBust + 30;
            switch (kind) {
                case POET: return asPoet;
                case STOIC: return asStoic;
                case ORATOR: return asStoic;
                case CICERO: return asStoic / 2;
                case TORSO: return 99;
                case HOMER: return asPoet;
                default: return asBust;
            }
        }

        private int stepsInADay() {
            int asBust = 1;
            int asPoet = 2 * asBust;
            int asOrator = asBust + 1;
            switch (kind) {
                case POET: return asPoet;
                case STOIC: return asBust;
                case ORATOR: return asOrator;
                case CICERO: return asOrator;
                case TORSO: return 5;
                case HOMER: return asPoet + (hasPart(10) ? 1 : 0);
                default: return asBust;
            }
        }

        private int says() {
            int asBust = 10 * Integer.bitCount(has);
            int asPoet = asBust + greatestPart();
            int asStoic = Math.max(0, asBust - yearning);
            int asOrator = asStoic + 7 * Integer.bitCount(has & ARMS);
            switch (kind) {
                case POET: return asPoet;
                case STOIC: return asStoic;
                case ORATOR: return asOrator;
                case CICERO: return asOrator + date % 10;
                case TORSO: return hasPart(0) ? asBust : 0;
                case HOMER: return 3 * asPoet;
                default: return asBust;
            }
        }

        private boolean wouldWalk() {
            return yearning >= leavesWith() && hasPart(LAST_PART) && sealed == 0 && gone == 0;
        }

        private void yearn(int more) {
            yearning = Math.min(MOST_YEARNING, yearning + more);
        }

        /**
         * Whether to take a part hangs on no other part but the one right before it, so the shortest way to a part
         * goes back from it, part by part, just as far as it must. 0: there is no way.
         */
        private int pathUpTo(int part) {
            int path = 0;
            for (int p = part; p >= 0; p--) {
                path |= 1 << p;
                if (takes(p)) {
                    return path;
                }
                if (p == 0 || !takesBehind(p)) {
                    return 0;
                }
            }
            return 0;
        }

        private boolean takesBehind(int part) {
            int had = has;
            receive(part - 1);
            boolean taken = takes(part);
            has = had;
            return taken;
        }
    }

    /** All that an image keeps: list, store, busts, spots, day, draws and how many went out. */
    private static final class Library {
        private int day = 0;
        private int left = 0;
        private int z = 1;
        private int number = 0;
        private final int[] list = new int[PLACES];
        private final int[] store = new int[PARTS];
        private final int[] spots = new int[SPOTS];
        private final Bust[] busts = new Bust[MOST_BUSTS];

        private Library() {
            for (int i = 0; i < PLACES; i++) {
                list[i] = NO_PART;
            }
            for (int i = 0; i < SPOTS; i++) {
                spots[i] = -1;
            }
            for (int b = 0; b < MOST_BUSTS; b++) {
                busts[b] = new Bust();
            }
        }

        private void copyFrom(Library other) {
            day = other.day;
            left = other.left;
            z = other.z;
            number = other.number;
            System.arraycopy(other.list, 0, list, 0, PLACES);
            System.arraycopy(other.store, 0, store, 0, PARTS);
            System.arraycopy(other.spots, 0, spots, 0, SPOTS);
            for (int b = 0; b < number; b++) {
                busts[b].copyFrom(other.busts[b]);
            }
        }

        /** The number of the new bust; -1 where there is no room. */
        private int addBust(int kind, int date) {
            if (number >= MOST_BUSTS) {
                return -1;
            }
            busts[number].begin(kind, date);
            number++;
            return number - 1;
        }

        /** -1: nobody. */
        private int heirOf(int part) {
            int heir = -1;
            for (int b = 0; b < number; b++) {
                boolean earlier = heir < 0 || busts[b].date < busts[heir].date;
                if (earlier && busts[b].gone == 0 && busts[b].takes(part)) {
                    heir = b;
                }
            }
            return heir;
        }

        private int placeToday() {
            return day % PLACES;
        }

        private void passDays(int n) {
            for (int i = 0; i < n; i++) {
                passDay();
            }
        }

        private void passDay() {
            int bequest = list[placeToday()];
            if (bequest < PARTS) {
                bequeath(bequest, heirOf(bequest));
            }
            for (int b = 0; b < number; b++) {
                if (busts[b].gone == 0) {
                    passDayOf(busts[b]);
                }
            }
            day = Math.min(MOST_DAY, day + 1);
        }

        private void bequeath(int part, int heir) {
            if (heir >= 0) {
                busts[heir].receive(part);
            } else {
                store[part] = Math.min(MOST_STORED, store[part] + 1);
            }
        }

        /** Only who walks on this day can be gone by it: one that waits at the door stays. */
        private void passDayOf(Bust bust) {
            bust.yearn(bust.yearnsMore());
            if (!bust.wouldWalk()) {
                return;
            }
            bust.cell = Math.min(DOOR, bust.cell + bust.stepsInADay());
            if (bust.cell == DOOR) {
                bust.gone = 1;
                left = Math.min(MOST_LEFT, left + 1);
            }
        }

        private int draw() {
            z = z * 1103515245 + 12345;
            return z >>> 8;
        }

        private void passDayByDraws() {
            int bequest = draw() % BEQUESTS;
            int b = draw() % MOST_BUSTS;
            list[placeToday()] = bequest;
            if (b < number) {
                busts[b].yearn(YEARNING_BY_DRAW);
            }
            passDay();
        }

        private int storedTogether() {
            int sum = 0;
            for (int part = 0; part < PARTS; part++) {
                sum += store[part];
            }
            return sum;
        }

        private int completeBusts() {
            int set = 0;
            for (int b = 0; b < number; b++) {
                if (busts[b].gone == 0 && busts[b].has == ALL_PARTS) {
                    set |= 1 << b;
                }
            }
            return set;
        }

        private int walkers() {
            int set = 0;
            for (int b = 0; b < number; b++) {
                if (busts[b].wouldWalk()) {
                    set |= 1 << b;
                }
            }
            return set;
        }

        /** -1: all are gone. */
        private int loudest() {
            int loudest = -1;
            for (int b = 0; b < number; b++) {
                boolean louder = loudest < 0 || busts[b].says() > busts[loudest].says();
                if (louder && busts[b].gone == 0) {
                    loudest = b;
                }
            }
            return loudest;
        }

        private int yearningTogether() {
            int sum = 0;
            for (int b = 0; b < number; b++) {
                if (busts[b].gone == 0) {
                    sum += busts[b].yearning;
                }
            }
            return sum;
        }

        private int goneBusts() {
            int set = 0;
            for (int b = 0; b < number; b++) {
                if (busts[b].gone == 1) {
                    set |= 1 << b;
                }
            }
            return set;
        }

        private int spotsTaken() {
            int taken = 0;
            for (int i = 0; i < SPOTS; i++) {
                if (spots[i] >= 0) {
                    taken++;
                }
            }
            return taken;
        }

        /**
         * Days go by the order of the dates alone, so a bust's date makes a difference only against the others:
         * the greatest dates to be tried are the last of all, that of another bust, and the one before it.
         */
        private boolean mayDifferAt(int bust, int date) {
            if (date == LATEST_DATE) {
                return true;
            }
            for (int b = 0; b < number; b++) {
                if (b != bust && (busts[b].date == date || busts[b].date == date + 1)) {
                    return true;
                }
            }
            return false;
        }
    }

    /** A row of numbers of 8, 16 or 32 bits, or nothing. */
    private static final class Sheet {
        /** 0: it is missing. */
        private int bits = 0;
        private int size = 0;
        private final int[] numbers = new int[MOST_NUMBERS];

        private boolean isMissing() {
            return bits == 0;
        }

        private void begin(int ofBits, int ofSize) {
            bits = ofBits;
            size = ofBits == 0 ? 0 : ofSize;
            for (int i = 0; i < MOST_NUMBERS; i++) {
                numbers[i] = 0;
            }
        }

        private void put(int i, int v) {
            if (bits == 8) {
                numbers[i] = (byte) v;
            } else if (bits == 16) {
                numbers[i] = (short) v;
            } else {
                numbers[i] = v;
            }
        }

        /** Asked without a sum, which could wrap round. */
        private boolean spans(int from, int n) {
            return from >= 0 && n >= 0 && n <= size && from <= size - n;
        }
    }

    /** The bytes, and the token at which their reading stands. */
    private static final class Tape {
        private final int[] bytes = new int[MOST_BYTES];
        private int length = 0;
        private int token = END;
        private int start = 0;
        private int stop = 0;
        private int value = 0;

        private void append(int b) {
            if (length < MOST_BYTES) {
                bytes[length] = b;
                length++;
            }
        }

        private void rewind() {
            stop = 0;
            readToken();
        }

        private void readToken() {
            start = stop;
            while (start < length && bytes[start] == ' ') {
                start++;
            }
            stop = start;
            if (start >= length) {
                token = END;
            } else if (isLetter(start)) {
                token = WORD;
                while (stop < length && isLetter(stop)) {
                    stop++;
                }
            } else if (isDigit(start)) {
                token = NUMBER;
                value = 0;
                while (stop < length && isDigit(stop)) {
                    value = Math.min(TOO_GREAT, 10 * value + bytes[stop] - '0');
                    stop++;
                }
            } else {
                token = bytes[start] == ';' ? SIGN : STRANGE;
                stop = start + 1;
            }
        }

        private boolean isLetter(int place) {
            return bytes[place] >= 'a' && bytes[place] <= 'z';
        }

        private boolean isDigit(int place) {
            return bytes[place] >= '0' && bytes[place] <= '9';
        }

        private boolean isNumber(int most) {
            return token == NUMBER && value <= most;
        }

        private boolean isWord(String word) {
            if (token != WORD || stop - start != word.length()) {
                return false;
            }
            for (int i = 0; i < word.length(); i++) {
                if (bytes[start + i] != word.charAt(i)) {
                    return false;
                }
            }
            return true;
        }
    }

    /**
     * Reads a text item by item into a library, which is a mere trial until the text has come to its end. Where a
     * reading says no, the tape stands at the token that is the fault.
     */
    private static final class TextReader {
        private final Tape tape;
        private final Library library;
        private int first = 0;
        private int second = 0;

        private TextReader(Tape ofTape, Library ofLibrary) {
            tape = ofTape;
            library = ofLibrary;
        }

        /** How many items, or -1 less the fault. */
        private int readText() {
            tape.rewind();
            for (int items = 1; items <= MOST_BYTES; items++) {
                if (!readItem()) {
                    break;
                }
                if (tape.token == END) {
                    return items;
                }
                if (tape.token != SIGN) {
                    break;
                }
                tape.readToken();
            }
            return -1 - tape.start;
        }

        private boolean readItem() {
            if (tape.isWord("bequest")) {
                return readBequest();
            }
            if (tape.isWord("store")) {
                return readStore();
            }
            for (int kind = 0; kind < KINDS; kind++) {
                if (tape.isWord(wordOf(kind))) {
                    return readBust(kind);
                }
            }
            return false;
        }

        private static String wordOf(int kind) {
            switch (kind) {
                case POET: return "poet";
                case STOIC: return "stoic";
                case ORATOR: return "orator";
                case CICERO: return "cicero";
                case TORSO: return "torso";
                case HOMER: return "homer";
                default: return "bust";
            }
        }

        private boolean readBequest() {
            if (!readTwoNumbers(LAST_PLACE, NO_PART)) {
                return false;
            }
            library.list[first] = second;
            return true;
        }

        private boolean readStore() {
            if (!readTwoNumbers(LAST_PART, MOST_STORED)) {
                return false;
            }
            library.store[first] = second;
            return true;
        }

        private boolean readTwoNumbers(int mostFirst, int mostSecond) {
            tape.readToken();
            if (!tape.isNumber(mostFirst)) {
                return false;
            }
            first = tape.value;
            tape.readToken();
            if (!tape.isNumber(mostSecond)) {
                return false;
            }
            second = tape.value;
            tape.readToken();
            return true;
        }

        /** It is added before its date is read, for of a bust too many its own word is the fault. */
        private boolean readBust(int kind) {
            int number = library.addBust(kind, 0);
            if (number < 0) {
                return false;
            }
            Bust bust = library.busts[number];
            tape.readToken();
            if (!tape.isNumber(LATEST_DATE)) {
                return false;
            }
            bust.date = tape.value;
            tape.readToken();
            return readMore(bust, "has", HAS) && readMore(bust, "at", CELL) && readSeal(bust);
        }

        private boolean readMore(Bust bust, String word, int what) {
            if (!tape.isWord(word)) {
                return true;
            }
            tape.readToken();
            if (!tape.isNumber(MOST[what])) {
                return false;
            }
            bust.become(what, tape.value);
            tape.readToken();
            return true;
        }

        private boolean readSeal(Bust bust) {
            if (tape.isWord("sealed")) {
                bust.sealed = 1;
                tape.readToken();
            }
            return true;
        }
    }
}
