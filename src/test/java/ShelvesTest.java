/** Promises 1 to 8. */
public final class ShelvesTest {
    private static final Check c = new Check("ShelvesTest");

    public static void main(String[] args) {
        newObject();
        days();
        row();
        set();
        copy();
        element();
        holds();
        says();
        c.end();
    }

    private static void newObject() {
        AdvertCouncil x = new AdvertCouncil();
        for (int what = 0; what <= 17; what++) {
            c.due("1 status(" + what + ")", x.status(what), 0);
        }
        for (int s = 0; s < 8; s++) {
            c.due("1 holds", x.holds(s), -1);
        }
        c.due("1 fault()", x.fault(), -1);
        c.due("1 leastSet()", x.leastSet(), 0);
        c.due("1 measure(0, 50)", x.measure(0, 50), 50);
        c.due("1 measure(1, 10)", x.measure(1, 10), 10);
        c.due("NONE", AdvertCouncil.NONE, -1);
    }

    private static void days() {
        AdvertCouncil x = new AdvertCouncil();
        c.due("2 days(0)", x.days(0), -6);
        c.due("2 days(-1)", x.days(-1), -6);
        c.due("2 days(least)", x.days(Integer.MIN_VALUE), -6);
        c.due("2 days(1001)", x.days(1001), -6);
        c.due("2 days(most)", x.days(Integer.MAX_VALUE), -6);
        c.due("2 days(1)", x.days(1), 1);
        for (int i = 0; i < 8; i++) {
            c.due("2 days(1000)", x.days(1000), 1001 + 1000 * i);
        }
        c.due("2 days(1000) past the last", x.days(1000), -6);
        c.due("2 days(999)", x.days(999), 9000);
        c.due("2 days(1) on the last", x.days(1), -6);
        c.due("2 status(10)", x.status(10), 9000);
        c.due("2 status(16)", x.status(16), 7);
    }

    private static void row() {
        AdvertCouncil x = new AdvertCouncil();
        c.due("3 nobody first", x.row(8, 9, -1), -1);
        c.due("3 shelf below", x.row(-1, 0, 1), -1);
        c.due("3 below ahead of sort", x.row(0, 4, -1), -4);
        c.due("3 sort ahead of room", x.row(0, 4, 61), -6);
        c.due("3 sort below", x.row(0, -1, 1), -6);
        c.due("3 room", x.row(0, 3, 61), -7);
        c.due("3 nothing came", x.holds(0), -1);
        c.due("3 sixty", x.row(7, 3, 60), 1);
        c.due("3 none", x.row(0, 0, 0), 1);
        c.due("3 sort 3", x.holds(7), 103);
        c.due("3 sort 0", x.holds(0), 100);
        c.due("3 set the last", x.set(7, 59, 5), 1);
        c.due("3 anew", x.row(7, 2, 60), 1);
        c.due("3 all are 0 again", x.element(7, 59), 0);
        c.due("3 set the first", x.set(7, 0, 5), 1);
        c.due("3 anew", x.row(7, 2, 60), 1);
        c.due("3 all are 0 again", x.element(7, 0), 0);
        c.due("6 none behind sixty", x.element(7, 60), 0);
        c.due("3 a failed row leaves what was", x.row(7, 0, 61), -7);
        c.due("3 still sort 2", x.holds(7), 102);
    }

    private static void set() {
        AdvertCouncil x = new AdvertCouncil();
        long[] wide = {0x1122334455667788L, -1L, 128, -129, 40000, 1L << 31, 1L << 32, Long.MIN_VALUE};
        for (int sort = 0; sort < 4; sort++) {
            x.row(sort, sort, 8);
            for (int i = 0; i < 8; i++) {
                c.due("4 set", x.set(sort, i, wide[i]), 1);
            }
        }
        for (int i = 0; i < 8; i++) {
            c.due("4 byte " + i, x.element(0, i), (byte) wide[i]);
            c.due("4 short " + i, x.element(1, i), (short) wide[i]);
            c.due("4 int " + i, x.element(2, i), (int) wide[i]);
            c.due("4 long " + i, x.element(3, i), wide[i]);
        }
        c.due("4 no such shelf", x.set(8, 0, 1), -1);
        c.due("4 no such shelf", x.set(-1, -1, 1), -1);
        c.due("4 nothing", x.set(4, 0, 1), -3);
        c.due("4 nothing ahead of beyond", x.set(4, 60, 1), -3);
        c.due("4 beyond", x.set(0, 8, 1), -5);
        c.due("4 beyond below", x.set(0, -1, 1), -5);
        claimOn(x, 5);
        c.due("4 a claim", x.set(5, -1, 1), -2);
        c.due("4 refused: nothing", x.status(13), 2);
        c.due("4 refused: beyond", x.status(15), 2);
        c.due("4 refused: other", x.status(12), 1);
        c.due("4 refused: nobody", x.status(11), 2);
    }

    private static void copy() {
        AdvertCouncil x = new AdvertCouncil();
        Check.row(x, 0, 1, 1, 2, 3, 4, 5);
        Check.row(x, 1, 1, 9, 9, 9);
        Check.row(x, 2, 2, 7, 7);
        claimOn(x, 3);
        c.due("5", x.copy(0, 1, 2, 1, 2), 1);
        same(x, 1, 9, 3, 4);
        c.due("5 within, up", x.copy(0, 0, 0, 1, 4), 1);
        same(x, 0, 1, 1, 2, 3, 4);
        c.due("5 within, down", x.copy(0, 0, 1, 0, 4), 1);
        same(x, 0, 1, 2, 3, 4, 4);
        c.due("5 none", x.copy(0, 1, 5, 3, 0), 1);
        c.due("5 none behind the end", x.copy(0, 1, 6, 3, 0), -5);
        c.due("5 none behind the end of the other", x.copy(0, 1, 5, 4, 0), -5);
        c.due("5 nobody", x.copy(8, 3, -1, -1, -1), -1);
        c.due("5 nobody", x.copy(4, -1, -1, -1, -1), -1);
        c.due("5 a claim ahead of nothing", x.copy(3, 4, -1, -1, -1), -2);
        c.due("5 a claim ahead of nothing", x.copy(4, 3, -1, -1, -1), -2);
        c.due("5 two sorts", x.copy(0, 2, -1, -1, -1), -2);
        c.due("5 nothing", x.copy(4, 0, -1, -1, -1), -3);
        c.due("5 nothing", x.copy(0, 4, -1, -1, -1), -3);
        c.due("5 below", x.copy(0, 1, -1, -1, -1), -4);
        c.due("5 beyond i", x.copy(0, 1, -1, 0, 1), -5);
        c.due("5 beyond j", x.copy(0, 1, 0, -1, 1), -5);
        c.due("5 end of p", x.copy(0, 1, 4, 0, 2), -5);
        c.due("5 end of q", x.copy(0, 1, 0, 2, 2), -5);
        c.due("5 far beyond", x.copy(0, 1, Integer.MAX_VALUE, 0, Integer.MAX_VALUE), -5);
        c.due("5 far beyond", x.copy(0, 1, 1, 1, Integer.MAX_VALUE), -5);
        same(x, 1, 9, 3, 4);
    }

    private static void same(AdvertCouncil x, int s, long... want) {
        for (int i = 0; i < want.length; i++) {
            c.due("element(" + s + ", " + i + ")", x.element(s, i), want[i]);
        }
    }

    private static void element() {
        AdvertCouncil x = new AdvertCouncil();
        Check.row(x, 0, 3, 5, -6, Long.MAX_VALUE);
        claimOn(x, 1);
        c.due("6", x.element(0, 1), -6);
        c.due("6 a whole long", x.element(0, 2), Long.MAX_VALUE);
        c.due("6 none", x.element(0, 3), 0);
        c.due("6 none", x.element(0, -1), 0);
        c.due("6 a claim", x.element(1, 0), 0);
        c.due("6 nothing", x.element(2, 0), 0);
        c.due("6 no shelf", x.element(8, 0), 0);
        c.due("6 no shelf", x.element(-1, 0), 0);
        for (int what = 11; what <= 17; what++) {
            c.due("6 nothing is refused", x.status(what), 0);
        }
    }

    private static void holds() {
        AdvertCouncil x = new AdvertCouncil();
        for (int sort = 0; sort < 4; sort++) {
            x.row(sort, sort, 1);
            c.due("7", x.holds(sort), 100 + sort);
        }
        c.due("7 nothing", x.holds(4), -1);
        c.due("7 no shelf", x.holds(8), -1);
        c.due("7 no shelf", x.holds(-1), -1);
        Check.phrase(x, 4, 1, 1, 0, 5);
        Check.phrase(x, 2, 1, 1, 0, 1);
        Check.advert(x, 0, 0, 1);
        x.keep(4, 0, 0);
        c.due("7 a claim's phrase", x.holds(4), 1);
        c.due("7 a row over a claim", x.row(4, 1, 1), 1);
        c.due("7 a row over a claim", x.holds(4), 101);
        c.due("7 a claim over a row", x.keep(4, 0, 0), 2);
        c.due("7 a claim over a row", x.holds(4), 1);
    }

    private static void says() {
        AdvertCouncil x = new AdvertCouncil();
        int[] kinds = {0, 1, 2, 4, 5};
        for (int i = 0; i < kinds.length; i++) {
            Check.phrase(x, kinds[i], 3 + i, 100 + 7 * i, 0, 1);
        }
        Check.advert(x, 0, 0, 1);
        for (int i = 0; i < kinds.length; i++) {
            c.due("8 keep", x.keep(i, 0, i), kinds[i]);
            c.due("8 for a claim", x.says(i, 0), 3 + i);
        }
        int[][] due = {
            {3, -2, -2, -2, -2, -2},
            {4, 107, -2, -2, -2, -2},
            {5, -2, 114 % 12, -2, -2, -2},
            {6, -2, -2, -2, 0, -2},
            {7, 128, -2, -2, -2, 1128},
        };
        for (int i = 0; i < due.length; i++) {
            for (int kind = 0; kind < 6; kind++) {
                c.due("8 says(" + i + ", " + kind + ")", x.says(i, kind), due[i][kind]);
            }
        }
        x.row(6, 0, 1);
        x.keep(5, -1, 0);
        c.due("8 a row", x.says(6, 0), -2);
        c.due("8 nothing", x.says(5, 0), -3);
        c.due("8 no kind", x.says(6, 6), -1);
        c.due("8 no kind", x.says(5, -1), -1);
        c.due("8 no shelf", x.says(8, 0), -1);
        c.due("8 no shelf", x.says(-1, 0), -1);
        x.unphrase(1);
        Check.advert(x, 0, 0, 2);
        c.due("8 as it was read then", x.says(1, 1), 107);
    }

    private static void claimOn(AdvertCouncil x, int s) {
        Check.phrase(x, 0, 1, 1, 0, 1);
        Check.advert(x, 0, 0, 1);
        c.due("keep", x.keep(s, x.status(0) - 1, 0), 0);
    }
}
