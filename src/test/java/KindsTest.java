/**
 * Every kind with every set of parts, and every yearning: what it accepts, yearns, leaves with, steps and says, held
 * against the model's words for the kinds.
 */
public final class KindsTest {
    private static final Due DUE = new Due("KindsTest");
    private static final int CALLS = 480;

    private static int calls = 0;
    private static BustRest x = Due.withKinds(0);

    /** An object answers for so many calls only. */
    private static BustRest fresh(int kind, int date) {
        calls += 20;
        if (calls > CALLS) {
            x = Due.withKinds(0);
            calls = 20;
        }
        x.change(0, 0, kind);
        x.change(0, 1, date);
        return x;
    }

    private static void held(int kind, int date, int has, int yearning) {
        BustRest of = fresh(kind, date);
        of.change(0, 2, has);
        of.change(0, 4, yearning);
        Model.Being being = Model.made(kind, date);
        being.yearning = yearning;
        for (int part = 0; part < 12; part++) {
            being.has[part] = (has >> part & 1) == 1;
        }
        String who = "kind " + kind + " of date " + date + " that has " + has + " and yearns " + yearning;
        for (int what = 7; what < 11; what++) {
            DUE.due(who + ": of(0, " + what + ")", of.of(0, what), Model.told(being, what));
        }
        for (int part = 0; part < 12; part++) {
            boolean accepts = !being.has[part] && being.accepts(part);
            DUE.due(who + ": accepts(0, " + part + ")", of.accepts(0, part), accepts ? 1 : 0);
        }
    }

    public static void main(String[] args) {
        for (int kind = 0; kind < 7; kind++) {
            for (int has = 0; has < 4096; has++) {
                held(kind, has % 1000, has, has % 100);
                held(kind, 999, has, 0);
            }
            for (int yearning = 0; yearning < 100; yearning++) {
                held(kind, 7, 4095, yearning);
                held(kind, 7, 31, yearning);
            }
        }
        DUE.end();
    }
}
