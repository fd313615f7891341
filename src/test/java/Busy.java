/** An object in which much is so, and all that can be seen of one, its calls used up for it. */
final class Busy {
    private Busy() {
    }

    /** Eight busts, one gone and one sealed; bequests, a store, spots, sheets, a tape, an image of an earlier day. */
    static BustRest library() {
        BustRest x = new BustRest();
        Due.read(x, "bust 30;poet 20 has 2055 at 3;stoic 20 sealed;orator 40 has 9;cicero 47 has 2051 at 12");
        Due.read(x, "bequest 0 2;bequest 1 0;bequest 3 11;bequest 5 12;store 2 99;store 5 1;store 11 7");
        x.hold(0, 4);
        x.hold(9, 1);
        x.go(1);
        x.image();
        Due.read(x, "torso 5 has 2049 at 9;homer 6 has 1024;bust 999 has 2051 at 14;bequest 4 7");
        x.change(5, 4, 97);
        x.change(7, 4, 49);
        x.go(3);
        x.change(3, 6, 1);
        x.hold(3, 3);
        x.seed(-77);
        Due.numbers(x, 0, 8, 4, 0, 12, 3, 9, 1);
        Due.numbers(x, 1, 16, 7, 8);
        Due.numbers(x, 2, 32, 5, -1, 6, 20);
        Due.feed(x, "store 3 9;bequest 2 4" + " ".repeat(97));
        return x;
    }


    private static void library(BustRest x, StringBuilder all) {
        for (int b = 0; b < 8; b++) {
            for (int what = 0; what < 7; what++) {
                tell(all, x.of(b, what));
            }
        }
        lists(x, all);
        for (int spot = 0; spot < 10; spot++) {
            tell(all, x.as(spot, 0));
        }
        for (int what = 0; what < 8; what++) {
            tell(all, x.count(what));
        }
        all.append('\n');
    }

    private static void lists(BustRest x, StringBuilder all) {
        for (int i = 0; i < 6; i++) {
            tell(all, x.listed(i));
        }
        for (int part = 0; part < 12; part++) {
            tell(all, x.stored(part));
        }
    }

    private static void tell(StringBuilder all, long v) {
        all.append(v).append(' ');
    }

    /** Its numbers, as far as they are 0 to 12; its bits, by what it makes of numbers that are too great; its size. */
    private static void sheet(BustRest x, int s, StringBuilder all) {
        tell(all, x.load(s));
        for (int i = 0; i < 6; i++) {
            tell(all, x.listed(i));
        }
        tell(all, x.judge(s));
        int size = 0;
        while (size < 41 && x.write(s, size, 0) == 1) {
            size++;
        }
        tell(all, size);
        for (int v : new int[] {256, 65536}) {
            x.write(s, 0, v + 13);
            tell(all, x.load(s));
            x.write(s, 0, v + 1);
            tell(all, x.load(s));
        }
        all.append('\n');
    }

    /** All that can be seen, but for status(); the object is another one after it. */
    static String seen(BustRest x) {
        StringBuilder all = new StringBuilder();
        library(x, all);
        for (int s = 0; s < 4; s++) {
            sheet(x, s, all);
        }
        tell(all, x.text());
        lists(x, all);
        tell(all, x.wipe());
        all.append('\n');
        tell(all, x.undo());
        library(x, all);
        tell(all, x.tear());
        return all.toString();
    }

    /** status(-1) to status(6). */
    static int[] status(BustRest x) {
        int[] status = new int[8];
        for (int which = -1; which < 7; which++) {
            status[which + 1] = x.status(which);
        }
        return status;
    }
}
