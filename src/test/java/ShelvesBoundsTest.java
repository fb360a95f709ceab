/** The bounds of DAYS and SHELVES: T1, promises 1 to 8. What is refused stands in RefusalsTest, too. */
public final class ShelvesBoundsTest {
    private static final int MOST = Integer.MAX_VALUE;

    private static final Check c = new Check("ShelvesBoundsTest");

    public static void main(String[] args) {
        newObject();
        newObjectHasNone();
        nowAtFirst();
        daysInOneCall();
        daysInAll();
        daysToTheLast();
        shelves();
        nothingAtFirst();
        sorts();
        elements();
        elementsAtFirst();
        rowOverAll();
        bytes();
        shorts();
        ints();
        longs();
        setEnds();
        copyEnds();
        copyNone();
        copyWithin();
        copySorts();
        copyHolds();
        elementEnds();
        holdsAll();
        saysAll();
        saysNumbers();
        saysWhereARowWas();
        firstAndLastShelf();
        claimAsReadThen();
        c.end();
    }

    private static void newObject() {
        c.sentence("1", "No ADVERTS, PHRASES, RULES; NOW is 0.");
        AdvertCouncil x = new AdvertCouncil();
        for (int what = 0; what <= 17; what++) {
            c.due("status(" + what + ")", x.status(what), 0);
        }
    }

    private static void newObjectHasNone() {
        c.sentence("1", "No ADVERTS, PHRASES, RULES");
        AdvertCouncil x = new AdvertCouncil();
        c.due("about", x.about(0, 0), -1);
        c.due("claims", x.claims(0, 0, 0), -1);
        c.due("unphrase", x.unphrase(0), -1);
        c.due("strike", x.strike(0), -1);
        c.due("ruling", x.ruling(0, 0), -1);
        c.due("kin", x.kin(0, 0), -1);
        c.due("results", x.results(0, 0, 9000, 0), 0);
        c.due("step", x.step(0), 0);
        c.due("beside none", x.beside(0), 0);
        c.due("beside one", x.beside(1), -1);
        c.due("fault", x.fault(), -1);
        c.due("leastSet", x.leastSet(), 0);
        c.due("another object is new as well", new AdvertCouncil().status(11), 0);
    }

    private static void nowAtFirst() {
        c.sentence("T1", "NOW is a DAY, 0 at first");
        AdvertCouncil x = new AdvertCouncil();
        c.due("status(10)", x.status(10), 0);
        Check.advert(x, 0, 0);
        c.due("the DAY of an ADVERT", x.about(0, 7), 0);
    }

    private static void daysInOneCall() {
        c.sentence("2", "NOW goes on by n DAYS (1 to 1,000 ..)");
        AdvertCouncil x = new AdvertCouncil();
        c.due("days(0)", x.days(0), -6);
        c.due("NOW behind it", x.status(10), 0);
        c.due("days(1)", x.days(1), 1);
        c.due("days(1001)", x.days(1001), -6);
        c.due("NOW behind it", x.status(10), 1);
        c.due("days(1000)", x.days(1000), 1001);
        c.due("days(-1)", x.days(-1), -6);
        c.due("days(-1000)", x.days(-1000), -6);
        c.due("NOW behind it", x.status(10), 1001);
        c.due("refused", x.status(16), 4);
    }

    private static void daysInAll() {
        c.sentence("2", "9,000 at most in all");
        AdvertCouncil x = new AdvertCouncil();
        for (int n = 1; n <= 9; n++) {
            c.due("days(1000)", x.days(1000), 1000 * n);
        }
        c.due("9,001 by one", x.days(1), -6);
        c.due("10,000", x.days(1000), -6);
        c.due("NOW behind it", x.status(10), 9000);
    }

    private static void daysToTheLast() {
        c.sentence("T1", "9,000 at most");
        AdvertCouncil x = new AdvertCouncil();
        Check.daysOn(x, 8001);
        c.due("9,001 by a thousand", x.days(1000), -6);
        c.due("NOW behind it", x.status(10), 8001);
        c.due("9,000", x.days(999), 9000);
        Check.advert(x, 0, 0);
        c.due("the DAY of an ADVERT", x.about(0, 7), 9000);
    }

    private static void shelves() {
        c.sentence("T1", "SHELVES 0 to 7");
        AdvertCouncil x = new AdvertCouncil();
        for (int s = 0; s < 8; s++) {
            c.due("row", x.row(s, s % 4, s + 1), 1);
            c.due("set", x.set(s, s, s), 1);
        }
        for (int s = 0; s < 8; s++) {
            c.due("each holds its own", x.holds(s), 100 + s % 4);
            c.due("each its own element", x.element(s, s), s);
        }
        c.due("SHELF -1", x.row(-1, 0, 1), -1);
        c.due("SHELF 8", x.row(8, 0, 1), -1);
        c.due("SHELF -1", x.set(-1, 0, 1), -1);
        c.due("SHELF 8", x.set(8, 0, 1), -1);
        c.due("refused", x.status(11), 4);
    }

    private static void nothingAtFirst() {
        c.sentence("T1", "SHELVES 0 to 7 hold NOTHING (at first)");
        AdvertCouncil x = new AdvertCouncil();
        for (int s = 0; s < 8; s++) {
            c.due("holds", x.holds(s), -1);
            c.due("set", x.set(s, 0, 1), -3);
            c.due("says", x.says(s, 0), -3);
            c.due("advert", x.advert(0, 0, s), -3);
        }
        c.due("refused", x.status(13), 24);
        c.due("no ADVERT", x.status(0), 0);
    }

    private static void sorts() {
        c.sentence("T1", "a SORT (0 bytes, 1 shorts, 2 ints, 3 longs)");
        AdvertCouncil x = new AdvertCouncil();
        long[] kept = {-1, -1, -1, (1L << 50) - 1};
        for (int sort = 0; sort < 4; sort++) {
            c.due("row", x.row(0, sort, 1), 1);
            c.due("set", x.set(0, 0, (1L << 50) - 1), 1);
            c.due("sort " + sort, x.element(0, 0), kept[sort]);
        }
        c.due("SORT -1", x.row(0, -1, 1), -6);
        c.due("SORT 4", x.row(0, 4, 1), -6);
        c.due("SORT 5", x.row(0, 5, 1), -6);
        c.due("the ROW behind it", x.element(0, 0), kept[3]);
    }

    private static void elements() {
        c.sentence("T1", "A ROW has .. 0 to 60 elements");
        AdvertCouncil x = new AdvertCouncil();
        c.due("none", x.row(0, 0, 0), 1);
        c.due("it is a ROW", x.holds(0), 100);
        c.due("of no first element", x.set(0, 0, 1), -5);
        c.due("60", x.row(0, 0, 60), 1);
        c.due("a last element", x.set(0, 59, 9), 1);
        c.due("61", x.row(0, 0, 61), -7);
        c.due("62", x.row(0, 0, 62), -7);
        c.due("below", x.row(0, 0, -1), -4);
        c.due("the ROW behind it", x.element(0, 59), 9);
        c.due("one element", x.row(0, 0, 1), 1);
        c.due("the first", x.set(0, 0, 1), 1);
        c.due("no second", x.set(0, 1, 1), -5);
    }

    private static void elementsAtFirst() {
        c.sentence("T1", "0 to 60 elements, 0 at first");
        AdvertCouncil x = new AdvertCouncil();
        for (int sort = 0; sort < 4; sort++) {
            x.row(0, sort, 60);
            for (int i = 0; i < 60; i += 59) {
                c.due("element " + i + " of SORT " + sort, x.element(0, i), 0);
                x.set(0, i, -1);
            }
        }
        x.row(0, 3, 10);
        x.row(0, 3, 60);
        for (int i = 0; i < 60; i++) {
            c.due("element " + i + ", where others were", x.element(0, i), 0);
        }
    }

    private static void rowOverAll() {
        c.sentence("3", "SHELF s holds a new ROW: 1.");
        AdvertCouncil x = House.made();
        c.due("over NOTHING", x.row(House.EMPTY, 0, 2), 1);
        c.due("over NOTHING", x.holds(House.EMPTY), 100);
        c.due("over a CLAIM", x.row(House.CLAIM, 3, 2), 1);
        c.due("over a CLAIM", x.holds(House.CLAIM), 103);
        c.due("a ROW can be set", x.set(House.CLAIM, 1, 5), 1);
        c.due("no CLAIM says", x.says(House.CLAIM, 0), -2);
        c.due("over a ROW", x.row(House.BYTES, 2, 2), 1);
        c.due("over a ROW", x.holds(House.BYTES), 102);
        c.due("over a ROW", x.element(House.BYTES, 0), 0);
        c.due("over a ROW, its end", x.set(House.BYTES, 2, 1), -5);
        c.due("the other SHELVES as they were", x.element(House.SHORTS, 1), 5);
    }

    /** Pairs of what is put in and what is kept. */
    private static void kept(int sort, long... pairs) {
        AdvertCouncil x = new AdvertCouncil();
        x.row(0, sort, 1);
        for (int n = 0; n < pairs.length; n += 2) {
            c.due("set", x.set(0, 0, pairs[n]), 1);
            c.due("SORT " + sort + " of " + pairs[n], x.element(0, 0), pairs[n + 1]);
        }
    }

    private static void bytes() {
        c.sentence("T1", "what is put in keeps its lowest bits: bytes");
        kept(0, 127, 127, 128, -128, 129, -127, 255, -1, 256, 0, 257, 1, -128, -128, -129, 127, -256, 0, -257, -1,
            1L << 32, 0, Long.MAX_VALUE, -1, Long.MIN_VALUE, 0, Long.MIN_VALUE + 127, 127, 0x1234567890ABCDEFL, -17);
    }

    private static void shorts() {
        c.sentence("T1", "what is put in keeps its lowest bits: shorts");
        kept(1, 32767, 32767, 32768, -32768, 65535, -1, 65536, 0, -32768, -32768, -32769, 32767, 128, 128, -129, -129,
            1L << 32, 0, Long.MAX_VALUE, -1, Long.MIN_VALUE, 0, 0x1234567890ABCDEFL, -12817);
    }

    private static void ints() {
        c.sentence("T1", "what is put in keeps its lowest bits: ints");
        kept(2, MOST, MOST, 1L << 31, Integer.MIN_VALUE, (1L << 32) - 1, -1, 1L << 32, 0, (1L << 32) + 1, 1,
            Integer.MIN_VALUE, Integer.MIN_VALUE, Integer.MIN_VALUE - 1L, MOST, 65536, 65536, Long.MAX_VALUE, -1,
            Long.MIN_VALUE, 0, 0x1234567890ABCDEFL, 0x90ABCDEF);
    }

    private static void longs() {
        c.sentence("T1", "what is put in keeps its lowest bits: longs");
        kept(3, Long.MAX_VALUE, Long.MAX_VALUE, Long.MIN_VALUE, Long.MIN_VALUE, 1L << 32, 1L << 32, -1, -1,
            0x1234567890ABCDEFL, 0x1234567890ABCDEFL, 1L << 31, 1L << 31);
    }

    private static void setEnds() {
        c.sentence("4", "Element i of the ROW becomes v: 1. .. -5.");
        AdvertCouncil x = new AdvertCouncil();
        Check.row(x, 0, 0, 1, 2, 3);
        c.due("the first", x.set(0, 0, 11), 1);
        c.due("the last", x.set(0, 2, 13), 1);
        c.due("one below", x.set(0, -1, 9), -5);
        c.due("one above", x.set(0, 3, 9), -5);
        same(x, 0, 11, 2, 13, 0);
        c.due("none above came with a longer ROW's place", x.element(0, 3), 0);
        c.due("refused", x.status(15), 2);
    }

    private static void same(AdvertCouncil x, int s, long... want) {
        for (int i = 0; i < want.length; i++) {
            c.due("element(" + s + ", " + i + ")", x.element(s, i), want[i]);
        }
    }

    private static void copyEnds() {
        c.sentence("5", "Elements i, i + 1, .. of the ROW in SHELF p, n of them, come to elements j, j + 1, ..");
        AdvertCouncil x = new AdvertCouncil();
        Check.row(x, 0, 3, 1, 2, 3, 4);
        Check.row(x, 1, 3, 0, 0, 0, Long.MAX_VALUE);
        c.due("one to the last", x.copy(0, 1, 0, 3, 1), 1);
        same(x, 1, 0, 0, 0, 1);
        c.due("the last to the first", x.copy(0, 1, 3, 0, 1), 1);
        same(x, 1, 4, 0, 0, 1);
        c.due("all", x.copy(0, 1, 0, 0, 4), 1);
        same(x, 1, 1, 2, 3, 4);
        c.due("one more than all", x.copy(0, 1, 0, 0, 5), -5);
        c.due("all but the first, one more", x.copy(0, 1, 1, 0, 4), -5);
        c.due("to all but the first, one more", x.copy(0, 1, 0, 1, 4), -5);
        same(x, 1, 1, 2, 3, 4);
        same(x, 0, 1, 2, 3, 4);
        x.set(0, 0, Long.MIN_VALUE + 5);
        c.due("a whole long", x.copy(0, 1, 0, 2, 1), 1);
        same(x, 1, 1, 2, Long.MIN_VALUE + 5, 4);
        x.row(2, 1, 60);
        x.row(3, 1, 60);
        x.set(2, 59, -7);
        c.due("sixty", x.copy(2, 3, 0, 0, 60), 1);
        c.due("the sixtieth", x.element(3, 59), -7);
        c.due("sixty one", x.copy(2, 3, 0, 0, 61), -5);
    }

    private static void copyNone() {
        c.sentence("5", "-5 i or j below 0, or an end that isn't there");
        AdvertCouncil x = new AdvertCouncil();
        x.row(0, 0, 0);
        x.row(1, 0, 3);
        c.due("none of none to none", x.copy(0, 0, 0, 0, 0), 1);
        c.due("one of none", x.copy(0, 1, 0, 0, 1), -5);
        c.due("one to none", x.copy(1, 0, 0, 0, 1), -5);
        c.due("none behind the last", x.copy(1, 0, 3, 0, 0), 1);
        c.due("none one further", x.copy(1, 0, 4, 0, 0), -5);
        c.due("to none behind the last", x.copy(0, 1, 0, 3, 0), 1);
        c.due("to none one further", x.copy(0, 1, 0, 4, 0), -5);
        c.due("to none at 1", x.copy(1, 0, 0, 1, 0), -5);
        c.due("i below", x.copy(1, 1, -1, 0, 0), -5);
        c.due("j below", x.copy(1, 1, 0, -1, 0), -5);
        c.due("i and n wrap around", x.copy(1, 1, 2, 0, MOST), -5);
        c.due("j and n wrap around", x.copy(1, 1, 0, 2, MOST), -5);
        c.due("i wraps around", x.copy(1, 1, MOST, 0, 2), -5);
        c.due("j wraps around", x.copy(1, 1, 0, MOST, 2), -5);
        c.due("refused", x.status(15), 11);
    }

    private static void copyWithin() {
        c.sentence("5", "(as they were ahead)");
        AdvertCouncil x = new AdvertCouncil();
        Check.row(x, 0, 1, 1, 2, 3, 4, 5, 6);
        c.due("one up", x.copy(0, 0, 0, 1, 5), 1);
        same(x, 0, 1, 1, 2, 3, 4, 5);
        c.due("two down", x.copy(0, 0, 2, 0, 4), 1);
        same(x, 0, 2, 3, 4, 5, 4, 5);
        c.due("onto itself", x.copy(0, 0, 0, 0, 6), 1);
        same(x, 0, 2, 3, 4, 5, 4, 5);
        Check.row(x, 1, 1, 9, 9);
        c.due("to another", x.copy(0, 1, 0, 0, 2), 1);
        x.set(0, 0, 77);
        same(x, 1, 2, 3);
        c.due("the first stays what it is", x.element(0, 1), 3);
    }

    private static void copySorts() {
        c.sentence("5", "-2 also of two SORTS (when both hold something)");
        AdvertCouncil x = new AdvertCouncil();
        for (int sort = 0; sort < 4; sort++) {
            x.row(sort, sort, 2);
            x.row(4 + sort, sort, 2);
        }
        for (int p = 0; p < 4; p++) {
            for (int q = 4; q < 8; q++) {
                c.due("copy(" + p + ", " + q + ")", x.copy(p, q, 0, 0, 1), q - p == 4 ? 1 : -2);
            }
        }
        c.due("refused", x.status(12), 12);
    }

    private static void copyHolds() {
        c.sentence("5", "-2 also of two SORTS (when both hold something); -3 either");
        AdvertCouncil x = House.made();
        c.due("a ROW and NOTHING", x.copy(House.LONGS, House.EMPTY, 0, 0, 1), -3);
        c.due("NOTHING and a ROW", x.copy(House.EMPTY, House.LONGS, 0, 0, 1), -3);
        c.due("NOTHING twice", x.copy(House.EMPTY, House.EMPTY, 0, 0, 1), -3);
        c.due("a CLAIM and NOTHING", x.copy(House.CLAIM, House.EMPTY, 0, 0, 1), -2);
        c.due("NOTHING and a CLAIM", x.copy(House.EMPTY, House.CLAIM, 0, 0, 1), -2);
        c.due("a CLAIM twice", x.copy(House.CLAIM, House.CLAIM, 0, 0, 1), -2);
        c.due("a CLAIM and a ROW", x.copy(House.CLAIM, House.BYTES, 0, 0, 1), -2);
        c.due("a ROW and a CLAIM", x.copy(House.BYTES, House.CLAIM, 0, 0, 1), -2);
        x.keep(House.LONGS, 0, 0);
        x.keep(House.LONGS, -1, 0);
        c.due("where a ROW was", x.copy(House.BYTES, House.LONGS, 0, 0, 1), -3);
    }

    private static void elementEnds() {
        c.sentence("6", "Element i of the ROW; 0 if there is none");
        AdvertCouncil x = new AdvertCouncil();
        Check.row(x, 0, 3, Long.MIN_VALUE, 8, Long.MAX_VALUE);
        same(x, 0, Long.MIN_VALUE, 8, Long.MAX_VALUE, 0);
        c.due("one below", x.element(0, -1), 0);
        Check.row(x, 0, 3, 5, 6, 7, 8);
        x.row(0, 3, 0);
        c.due("none in an empty ROW", x.element(0, 0), 0);
    }

    private static void holdsAll() {
        c.sentence("7", "the PHRASE of a CLAIM; 100 and the SORT of a ROW");
        AdvertCouncil x = new AdvertCouncil();
        for (int n = 0; n < 20; n++) {
            Check.phrase(x, 0, 1, 1, 0, 1);
        }
        Check.advert(x, 0, 0, 1);
        x.keep(0, 0, 0);
        x.keep(7, 0, 19);
        c.due("the first PHRASE", x.holds(0), 0);
        c.due("the last PHRASE", x.holds(7), 19);
        x.row(1, 0, 0);
        x.row(2, 3, 60);
        c.due("the first SORT, an empty ROW", x.holds(1), 100);
        c.due("the last SORT, a full ROW", x.holds(2), 103);
        x.keep(7, -1, 0);
        c.due("NOTHING where a CLAIM was", x.holds(7), -1);
        x.keep(2, -1, 0);
        c.due("NOTHING where a ROW was", x.holds(2), -1);
    }

    /** A CLAIM of a KIND, SUBJECT and NUMBER in SHELF 0. */
    private static AdvertCouncil saying(int kind, int subject, int number) {
        AdvertCouncil x = new AdvertCouncil();
        Check.phrase(x, kind, subject, number, 0, 1);
        Check.advert(x, 0, 0, 1);
        c.due("keep", x.keep(0, 0, 0), kind);
        return x;
    }

    private static void saysAll() {
        c.sentence("8", "What the CLAIM .., taken for one of a KIND, says .. -2 also if it is of no such KIND");
        int[][] due = {
            {13, -2, -2, -2, -2, -2},
            {13, 345, -2, -2, -2, -2},
            {13, -2, 9, -2, -2, -2},
            null,
            {13, -2, -2, -2, 0, -2},
            {13, 345, -2, -2, -2, 1345},
        };
        for (int kind = 0; kind < 6; kind++) {
            // no CLAIM is READ by a LEFT one
            if (kind != 3) {
                AdvertCouncil x = saying(kind, 13, 345);
                for (int as = 0; as < 6; as++) {
                    c.due("KIND " + kind + " for one of " + as, x.says(0, as), due[kind][as]);
                }
                c.due("KIND " + kind + " for one of -1", x.says(0, -1), -1);
                c.due("KIND " + kind + " for one of 6", x.says(0, 6), -1);
            }
        }
    }

    private static void saysNumbers() {
        c.sentence("8", "CLAIM: SUBJECT; NUMBER: its NUMBER; LIKENESS: NUMBER modulo 12; .. UPTO: 1,000 and its NUMBER");
        c.due("the least SUBJECT", saying(0, 0, 999).says(0, 0), 0);
        c.due("the greatest SUBJECT", saying(0, 15, 0).says(0, 0), 15);
        c.due("the least NUMBER", saying(1, 15, 0).says(0, 1), 0);
        c.due("the greatest NUMBER", saying(1, 0, 999).says(0, 1), 999);
        c.due("0 modulo 12", saying(2, 1, 0).says(0, 2), 0);
        c.due("11 modulo 12", saying(2, 1, 11).says(0, 2), 11);
        c.due("12 modulo 12", saying(2, 1, 12).says(0, 2), 0);
        c.due("13 modulo 12", saying(2, 1, 13).says(0, 2), 1);
        c.due("999 modulo 12", saying(2, 1, 999).says(0, 2), 3);
        c.due("1,000 and the least", saying(5, 1, 0).says(0, 5), 1000);
        c.due("1,000 and the greatest", saying(5, 1, 999).says(0, 5), 1999);
        c.due("UPTO the least, for a NUMBER", saying(5, 1, 0).says(0, 1), 0);
        c.due("UPTO the greatest, for a NUMBER", saying(5, 1, 999).says(0, 1), 999);
        c.due("FEELING", saying(4, 1, 999).says(0, 4), 0);
    }

    private static void saysWhereARowWas() {
        c.sentence("T1", "SHELVES .. hold NOTHING .., a ROW, or a CLAIM");
        AdvertCouncil x = House.made();
        c.due("a CLAIM where a ROW was", x.keep(House.BYTES, 0, 0), 1);
        c.due("it holds the CLAIM", x.holds(House.BYTES), 0);
        c.due("it says", x.says(House.BYTES, 1), 40);
        c.due("no ROW any longer", x.set(House.BYTES, 0, 1), -2);
        c.due("no element any longer", x.element(House.BYTES, 0), 0);
        c.due("a CLAIM where a CLAIM was", x.keep(House.BYTES, 0, 1), 2);
        c.due("it says", x.says(House.BYTES, 2), 14 % 12);
        c.due("NOTHING where a CLAIM was", x.keep(House.BYTES, -1, 0), -1);
        c.due("it says NOTHING", x.says(House.BYTES, 0), -3);
        c.due("NOTHING to set", x.set(House.BYTES, 0, 1), -3);
        c.due("NOTHING where a ROW was", x.keep(House.SHORTS, -1, 0), -1);
        c.due("it says NOTHING", x.says(House.SHORTS, 0), -3);
        c.due("NOTHING where NOTHING was", x.keep(House.EMPTY, -1, 0), -1);
        c.due("a ROW again", x.row(House.BYTES, 0, 3), 1);
        same(x, House.BYTES, 0, 0, 0);
    }

    private static void firstAndLastShelf() {
        c.sentence("T1", "SHELVES 0 to 7: for each call that takes one");
        for (int s = 0; s < 8; s += 7) {
            AdvertCouncil x = new AdvertCouncil();
            Check.row(x, s, 0, 1);
            c.due("phrase", x.phrase(s, 1, 2005, 0), 0);
            c.due("advert", x.advert(0, 0, s), 0);
            c.due("print", x.print(0, s, 0), 0);
            c.due("proof", x.proof(0, 2, s), 0);
            c.due("judge", x.judge(0, s), -6);
            c.due("copy", x.copy(s, s, 0, 0, 1), 1);
            Check.text(x, s, "b:k=1");
            c.due("rule", x.rule(s, 0), 0);
            c.due("keep", x.keep(s, 0, 0), 1);
            c.due("holds", x.holds(s), 0);
            c.due("says", x.says(s, 1), 5);
            c.due("keep NONE", x.keep(s, -1, 0), -1);
            c.due("holds", x.holds(s), -1);
            x.row(s, 0, 1);
            c.due("judge", x.judge(0, s), 1);
            c.due("element", x.element(s, 0), 0);
        }
    }

    private static void claimAsReadThen() {
        c.sentence("T1", "a CLAIM (as it was read then)");
        AdvertCouncil x = saying(1, 3, 77);
        x.unphrase(0);
        Check.phrase(x, 0, 4, 88, 0, 1);
        c.due("READ by another PHRASE now", x.claim(0, 0, 4), 1);
        c.due("its PHRASE then", x.holds(0), 0);
        c.due("its NUMBER then", x.says(0, 1), 77);
        c.due("its SUBJECT then", x.says(0, 0), 3);
    }
}
