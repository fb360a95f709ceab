/** The bounds of LEAST CHANGE and of the counts: T5, promises 35 to 37 and 41. What is refused stands in RefusalsTest, too. */
public final class LeastBoundsTest {
    private static final int MOST = Integer.MAX_VALUE;

    private static final Check c = new Check("LeastBoundsTest");

    public static void main(String[] args) {
        twelve();
        noWords();
        nothingBarred();
        allOfThem();
        leastAsBits();
        fewestFirst();
        movesUp();
        movesUpToNothing();
        asReadNow();
        asToldNow();
        first24();
        strikingLetsOthersCount();
        printStays();
        leastSetAtFirst();
        leastSetRefused();
        leastSetLatest();
        judgePlaces();
        judgeNone();
        judgeTwice();
        judgeSixty();
        judgeTwenty();
        judgeAsInts();
        judgeAgrees();
        counts();
        countsFull();
        refusals();
        refusalsOneByOne();
        statusWhats();
        c.end();
    }

    private static void leastIs(AdvertCouncil x, int advert, int count, int set) {
        c.due("least(" + advert + ")", x.least(advert), count);
        c.due("leastSet() behind least(" + advert + ")", x.leastSet(), set);
    }

    /** Each word 1 is a CLAIM that is BARRED; 2 and 3 one behind the other, too. */
    private static AdvertCouncil barred() {
        AdvertCouncil x = new AdvertCouncil();
        Check.phrase(x, 0, 1, 1, 0, 1);
        Check.phrase(x, 0, 1, 1, 0, 2, 3);
        Check.phrase(x, 4, 1, 1, 0, 5);
        Check.rule(x, 0, "b:k=0");
        return x;
    }

    private static void twelve() {
        c.sentence("T5", "Of an ADVERT of 12 WORDS at most");
        AdvertCouncil x = barred();
        Check.advert(x, 0, 0, 0, 0, 0, 0, 0, 0, 0, 0, 0, 0, 0, 1);
        Check.advert(x, 0, 0, 1, 0, 0, 0, 0, 0, 0, 0, 0, 0, 0, 0, 0);
        Check.advert(x, 0, 0, 0, 0, 0, 0, 0, 0, 0, 0, 0, 0, 0, 0, 0, 0, 0, 0, 0, 0, 0, 0);
        leastIs(x, 0, 1, 1 << 11);
        c.due("13 WORDS", x.least(1), -7);
        c.due("20 WORDS, none BARRED", x.least(2), -7);
        c.due("the set behind it", x.leastSet(), 1 << 11);
        c.due("refused", x.status(17), 2);
        c.due("ADVERT 3", x.least(3), -1);
        c.due("ADVERT -1", x.least(-1), -1);
    }

    private static void noWords() {
        c.sentence("35", "LEAST CHANGE of an ADVERT: how many places: of no WORDS");
        AdvertCouncil x = barred();
        Check.advert(x, 0, 0, 1);
        Check.advert(x, 0, 0);
        leastIs(x, 0, 1, 1);
        leastIs(x, 1, 0, 0);
    }

    private static void nothingBarred() {
        c.sentence("T5", "so that .. none of its CLAIMS is BARRED: none was");
        AdvertCouncil x = barred();
        Check.advert(x, 0, 0, 5, 2, 5, 3);
        leastIs(x, 0, 0, 0);
        Check.advert(x, 0, 0, 1, 1);
        x.strike(0);
        leastIs(x, 1, 0, 0);
    }

    private static void allOfThem() {
        c.sentence("T5", "the fewest places of WORDS to strike: all of them");
        AdvertCouncil x = barred();
        for (int size = 1; size <= 12; size++) {
            x.row(0, 0, size);
            for (int i = 0; i < size; i++) {
                x.set(0, i, 1);
            }
            x.advert(0, 0, 0);
            leastIs(x, size - 1, size, (1 << size) - 1);
        }
    }

    private static void leastAsBits() {
        c.sentence("T5", "of several sets the least as bits");
        AdvertCouncil x = barred();
        Check.advert(x, 0, 0, 2, 3);
        Check.advert(x, 0, 0, 0, 2, 3, 0, 2, 3);
        Check.advert(x, 0, 0, 2, 2, 3);
        Check.advert(x, 0, 0, 2, 3, 3);
        leastIs(x, 0, 1, 1);
        leastIs(x, 1, 2, 2 | 16);
        // places 0 and 1 leave 3, places 0 and 2 leave 2; the one place 2 leaves 2 2
        leastIs(x, 2, 1, 4);
        leastIs(x, 3, 1, 1);
    }

    private static void fewestFirst() {
        c.sentence("T5", "the fewest places: ahead of the least as bits");
        AdvertCouncil x = new AdvertCouncil();
        Check.phrase(x, 0, 1, 1, 0, 1, 9);
        Check.phrase(x, 0, 1, 1, 0, 2, 9);
        Check.phrase(x, 0, 1, 1, 0, 1, 2);
        Check.rule(x, 0, "b:k=0");
        Check.advert(x, 0, 0, 1, 2, 9);
        leastIs(x, 0, 2, 3);
        Check.advert(x, 0, 0, 0, 0, 2, 9);
        leastIs(x, 1, 1, 4);
        Check.advert(x, 0, 0, 1, 1, 1, 9);
        leastIs(x, 2, 1, 8);
    }

    private static void movesUp() {
        c.sentence("T5", "(what is behind moves up)");
        AdvertCouncil x = barred();
        Check.advert(x, 0, 0, 2, 1, 3);
        Check.advert(x, 0, 0, 2, 5, 3);
        Check.advert(x, 0, 0, 2, 1, 1, 1, 1, 1, 1, 1, 1, 1, 1, 3);
        leastIs(x, 0, 2, 1 | 2);
        leastIs(x, 1, 0, 0);
        leastIs(x, 2, 11, 0x7FF);
        c.due("without the place between", Check.judge(x, 0, 1), 0);
        c.due("without the place between and the first", Check.judge(x, 0, 1, 0), 1);
        c.due("without the place between and the last", Check.judge(x, 0, 1, 2), 1);
        c.due("without a place that bars nothing", Check.judge(x, 1, 1), 0);
    }

    private static void movesUpToNothing() {
        c.sentence("T5", "(what is behind moves up): nothing stands where it was");
        AdvertCouncil x = new AdvertCouncil();
        Check.phrase(x, 0, 1, 1, 0, 0);
        Check.phrase(x, 0, 1, 1, 0, 7, 7);
        Check.rule(x, 0, "b:k=0");
        Check.advert(x, 0, 0, 0, 7);
        leastIs(x, 0, 1, 1);
        Check.advert(x, 0, 0, 7, 7, 7);
        leastIs(x, 1, 2, 3);
        c.due("of a longer one before it", Check.judge(x, 0, 0), 1);
        c.due("two of three", Check.judge(x, 1, 2, 1), 1);
        c.due("one of three", Check.judge(x, 1, 2), 0);
    }

    private static void asReadNow() {
        c.sentence("T5", "so that as READ NOW none of its CLAIMS is BARRED");
        AdvertCouncil x = new AdvertCouncil();
        Check.phrase(x, 0, 1, 1, 10, 1);
        Check.rule(x, 20, "b:k=0");
        Check.advert(x, 0, 0, 1);
        int[] due = {0, 0, 1, 1, 0};
        for (int n = 0; n < due.length; n++) {
            c.due("least on DAY " + x.status(10), x.least(0), due[n]);
            c.due("judge on DAY " + x.status(10), Check.judge(x, 0), 1 - due[n]);
            if (n < 3) {
                x.days(n == 0 ? 19 : n == 1 ? 1 : 5);
            } else {
                x.strike(0);
            }
        }
        Check.rule(x, 0, "b:a=1|p=1");
        leastIs(x, 0, 0, 0);
        Check.proof(x, 0, 1);
        leastIs(x, 0, 1, 1);
    }

    private static void asToldNow() {
        c.sentence("T5", "as READ NOW: TOLD NOW");
        AdvertCouncil x = new AdvertCouncil();
        Check.advert(x, 0, 0, 1);
        Check.rule(x, 0, "b:0=0");
        x.days(30);
        Check.phrase(x, 0, 1, 1, 0, 1);
        leastIs(x, 0, 1, 1);
        c.due("judge", Check.judge(x, 0), 0);
        c.due("beside", x.beside(1), 1);
        x.strike(0);
        c.due("judge without RULES", Check.judge(x, 0), 1);
        Check.rule(x, 0, "b:0=0");
        leastIs(x, 0, 1, 1);
        c.due("judge by a RULE TOLD NOW", Check.judge(x, 0), 0);
        x.unphrase(0);
        leastIs(x, 0, 0, 0);
        c.due("judge without CLAIMS", Check.judge(x, 0), 1);
        c.due("beside without CLAIMS", x.beside(2), 0);
    }

    private static void first24() {
        c.sentence("T2", "The first 24 count: of what is left");
        AdvertCouncil x = new AdvertCouncil();
        for (int n = 0; n < 4; n++) {
            Check.phrase(x, 4, 1, 1, 0, 1);
        }
        Check.phrase(x, 0, 1, 1, 0, 2);
        Check.rule(x, 0, "b:k=0");
        Check.advert(x, 0, 0, 1, 1, 1, 1, 1, 1, 2);
        leastIs(x, 0, 0, 0);
        c.due("a 25th", Check.judge(x, 0), 1);
        c.due("one ahead of it struck", Check.judge(x, 0, 5), 0);
        Check.advert(x, 0, 0, 1, 1, 1, 1, 1, 2);
        leastIs(x, 1, 1, 32);
        Check.advert(x, 0, 0, 0, 0, 0, 0, 0, 0, 0, 0, 0, 0, 0, 1, 1, 1, 1, 1, 1, 2);
        c.due("a 25th of twenty WORDS", Check.judge(x, 2), 1);
        c.due("words of none ahead of it struck", Check.judge(x, 2, 0, 1, 2), 1);
        c.due("one of four ahead of it struck", Check.judge(x, 2, 13), 0);
    }

    private static void strikingLetsOthersCount() {
        c.sentence("T5", "none of its CLAIMS is BARRED: a struck place lets a 25th count");
        AdvertCouncil x = new AdvertCouncil();
        for (int n = 0; n < 7; n++) {
            Check.phrase(x, 4, 1, 1, 0, 1);
        }
        Check.phrase(x, 4, 1, 1, 0, 4);
        Check.phrase(x, 0, 1, 1, 0, 2);
        Check.rule(x, 0, "b:k=0");
        Check.advert(x, 0, 0, 2, 1, 1, 1, 4, 4, 2);
        c.due("24 and one", x.claims(0, 0, 0), 24);
        leastIs(x, 0, 2, 1 | 64);
        c.due("a 25th comes to count", Check.judge(x, 0, 0), 0);
        Check.advert(x, 0, 0, 2, 1, 1, 1, 4, 4, 4, 2);
        leastIs(x, 1, 1, 1);
        Check.advert(x, 0, 0, 1, 1, 1, 4, 4, 4, 2, 2);
        leastIs(x, 2, 0, 0);
        Check.advert(x, 0, 0, 1, 1, 1, 4, 4, 2, 2);
        leastIs(x, 3, 2, 32 | 64);
    }

    private static void printStays() {
        c.sentence("T5", "places of WORDS to strike: PRINT stays what it is");
        AdvertCouncil x = barred();
        Check.phrase(x, 3, 1, 1, 0, 8);
        x.strike(0);
        Check.rule(x, 0, "b:k=0&l=1");
        Check.advert(x, 0, 0, 1, 8);
        leastIs(x, 0, 0, 0);
        Check.print(x, 0, 0, 8);
        leastIs(x, 0, 1, 1);
    }

    private static void leastSetAtFirst() {
        c.sentence("36", "0 ahead of any.");
        AdvertCouncil x = barred();
        c.due("at first", x.leastSet(), 0);
        x.row(0, 0, 13);
        x.advert(0, 0, 0);
        x.least(0);
        x.least(1);
        c.due("behind refused ones", x.leastSet(), 0);
        c.due("judge tells no set", Check.judge(x, 0, 1, 2), 1);
        c.due("behind a judge", x.leastSet(), 0);
    }

    private static void leastSetRefused() {
        c.sentence("36", "the latest least() that was not refused");
        AdvertCouncil x = barred();
        Check.advert(x, 0, 0, 0, 1, 1);
        x.row(0, 0, 13);
        x.advert(0, 0, 0);
        leastIs(x, 0, 2, 6);
        c.due("-7", x.least(1), -7);
        c.due("the set", x.leastSet(), 6);
        c.due("-1", x.least(2), -1);
        c.due("the set", x.leastSet(), 6);
        c.due("asked again", x.leastSet(), 6);
    }

    private static void leastSetLatest() {
        c.sentence("36", "The set of the latest least()");
        AdvertCouncil x = barred();
        Check.advert(x, 0, 0, 0, 1, 1);
        Check.advert(x, 0, 0, 1);
        Check.advert(x, 0, 0, 5);
        leastIs(x, 0, 2, 6);
        leastIs(x, 1, 1, 1);
        leastIs(x, 2, 0, 0);
        leastIs(x, 0, 2, 6);
        x.strike(0);
        c.due("it stays what it was", x.leastSet(), 6);
    }

    private static void judgePlaces() {
        c.sentence("37", "-6 a place of none.");
        AdvertCouncil x = barred();
        Check.advert(x, 0, 0, 1, 0, 1);
        c.due("place -1", Check.judge(x, 0, -1), -6);
        c.due("place 0", Check.judge(x, 0, 0), 0);
        c.due("place 2", Check.judge(x, 0, 2), 0);
        c.due("places 0 and 2", Check.judge(x, 0, 0, 2), 1);
        c.due("place 3", Check.judge(x, 0, 3), -6);
        c.due("places 0, 2 and 3", Check.judge(x, 0, 0, 2, 3), -6);
        c.due("places -1, 0 and 2", Check.judge(x, 0, -1, 0, 2), -6);
        c.due("place 32", Check.judge(x, 0, 32), -6);
        c.due("the greatest place", Check.judge(x, 0, MOST), -6);
        c.due("the least place", Check.judge(x, 0, Integer.MIN_VALUE), -6);
        Check.advert(x, 0, 0);
        c.due("no place of no WORDS", Check.judge(x, 1), 1);
        c.due("place 0 of no WORDS", Check.judge(x, 1, 0), -6);
        c.due("refused", x.status(16), 8);
    }

    private static void judgeNone() {
        c.sentence("37", "without the places that the ROW in SHELF s tells: none");
        AdvertCouncil x = barred();
        Check.advert(x, 0, 0, 1);
        Check.advert(x, 0, 0, 5);
        c.due("a CLAIM is BARRED", Check.judge(x, 0), 0);
        c.due("a CLAIM isn't", Check.judge(x, 1), 1);
        c.due("without it", Check.judge(x, 1, 0), 1);
    }

    private static void judgeTwice() {
        c.sentence("37", "the places that the ROW .. tells: one told twice, in any order");
        AdvertCouncil x = barred();
        Check.advert(x, 0, 0, 1, 5, 1);
        c.due("the same twice", Check.judge(x, 0, 0, 0), 0);
        c.due("each twice", Check.judge(x, 0, 2, 0, 2, 0), 1);
        c.due("the last first", Check.judge(x, 0, 2, 0), 1);
        c.due("one three times", Check.judge(x, 0, 2, 2, 2), 0);
    }

    private static void judgeSixty() {
        c.sentence("T1", "A ROW has .. 0 to 60 elements: of places");
        AdvertCouncil x = barred();
        Check.advert(x, 0, 0, 0, 1);
        x.row(0, 0, 60);
        c.due("the first, sixty times", x.judge(0, 0), 0);
        x.set(0, 59, 1);
        c.due("the sixtieth tells another", x.judge(0, 0), 1);
        x.set(0, 59, 2);
        c.due("the sixtieth tells none", x.judge(0, 0), -6);
    }

    private static void judgeTwenty() {
        c.sentence("37", "Whether no CLAIM of an ADVERT is BARRED: of 20 WORDS");
        AdvertCouncil x = barred();
        x.row(0, 0, 20);
        for (int i = 0; i < 20; i++) {
            x.set(0, i, 1);
        }
        x.advert(0, 0, 0);
        x.row(1, 0, 20);
        for (int i = 0; i < 20; i++) {
            c.due("all but " + (20 - i), x.judge(0, 1), 0);
            x.set(1, i, i);
        }
        c.due("without all", x.judge(0, 1), 1);
        x.set(1, 19, 20);
        c.due("place 20", x.judge(0, 1), -6);
        x.set(1, 19, 18);
        c.due("all but the last", x.judge(0, 1), 0);
    }

    private static void judgeAsInts() {
        c.sentence("T1", "Everywhere elements count as ints (of longs the lowest 32 bits): places");
        AdvertCouncil x = barred();
        Check.advert(x, 0, 0, 5, 1);
        for (int sort = 0; sort < 4; sort++) {
            Check.row(x, 0, sort, sort == 3 ? (3L << 32) + 1 : 1);
            c.due("SORT " + sort, x.judge(0, 0), 1);
        }
        Check.row(x, 0, 3, (1L << 32) - 1);
        c.due("-1 as an int", x.judge(0, 0), -6);
        Check.row(x, 0, 0, 257);
        c.due("a byte of 257", x.judge(0, 0), 1);
        Check.row(x, 0, 1, 257);
        c.due("a short of 257", x.judge(0, 0), -6);
        Check.row(x, 0, 3, Long.MIN_VALUE, 1);
        c.due("the least long is place 0", x.judge(0, 0), 1);
    }

    private static void judgeAgrees() {
        c.sentence("37", "1, 0: as the set that least() tells, and as each less one");
        AdvertCouncil x = barred();
        Check.advert(x, 0, 0, 2, 1, 3, 5, 2, 3, 1);
        int count = x.least(0);
        int set = x.leastSet();
        for (int struck = 0; struck < 128; struck++) {
            if (Integer.bitCount(struck) < count || struck <= set && Integer.bitCount(struck) == count) {
                AdvertCouncil y = barred();
                Check.advert(y, 0, 0, 2, 1, 3, 5, 2, 3, 1);
                y.row(0, 0, Integer.bitCount(struck));
                int at = 0;
                for (int place = 0; place < 7; place++) {
                    if ((struck >> place & 1) == 1) {
                        y.set(0, at, place);
                        at++;
                    }
                }
                c.due("judge of " + struck, y.judge(0, 0), struck == set ? 1 : 0);
            }
        }
        c.due("one of each of the four", count, 4);
        c.due("the set", set, 1 | 2 | 16 | 64);
    }

    private static void counts() {
        c.sentence("41", "How many: 0 ADVERTS, 1 PHRASES, .. 9 UNDONE, 10 NOW");
        AdvertCouncil x = House.made();
        int[] due = {3, 7, 2, 2, 6, 5, 3, 3, 1, 1, 100};
        for (int what = 0; what < due.length; what++) {
            c.due("status(" + what + ")", x.status(what), due[what]);
        }
    }

    private static void countsFull() {
        c.sentence("41", "How many: as many as there may be");
        AdvertCouncil x = House.full();
        int[] due = {24, 20, 40, 16, 9, 40, 38, 38, 1, 1, 100};
        for (int what = 0; what < due.length; what++) {
            c.due("status(" + what + ")", x.status(what), due[what]);
        }
    }

    private static void refusals() {
        c.sentence("41", "11 to 17: REFUSALS -1 to -7");
        AdvertCouncil x = House.made();
        int[] due = {0, 0, 0, 0, 0, 1, 0};
        for (int n = 0; n < 7; n++) {
            c.due("status(" + (11 + n) + ") of the house", x.status(11 + n), due[n]);
        }
        AdvertCouncil y = new AdvertCouncil();
        for (int n = 0; n < 7; n++) {
            c.due("status(" + (11 + n) + ") of a new object", y.status(11 + n), 0);
        }
    }

    private static void refusalsOneByOne() {
        c.sentence("T5", "nothing changes but how many there were");
        AdvertCouncil x = House.made();
        int[] before = new int[7];
        for (int n = 0; n < 7; n++) {
            before[n] = x.status(11 + n);
        }
        int[] answers = {
            x.row(8, 0, 0), x.set(House.CLAIM, 0, 0), x.set(House.EMPTY, 0, 0), x.row(0, 0, -1), x.set(0, 3, 0), x.days(0),
            x.row(0, 0, 61), x.row(0, 0, 61), x.days(1001), x.set(0, -1, 0), x.copy(0, 0, 0, 0, -1), x.says(House.EMPTY, 0),
            x.says(House.BYTES, 0), x.keep(8, 0, 0), x.keep(-1, -1, 0), x.least(2),
        };
        int[] due = {-1, -2, -3, -4, -5, -6, -7, -7, -6, -5, -4, -3, -2, -1, -1, -7};
        for (int n = 0; n < due.length; n++) {
            c.due("answer " + n, answers[n], due[n]);
            before[-1 - due[n]]++;
        }
        for (int n = 0; n < 7; n++) {
            c.due("status(" + (11 + n) + ")", x.status(11 + n), before[n]);
        }
    }

    private static void statusWhats() {
        c.sentence("41", "NONE for another what.");
        AdvertCouncil x = House.made();
        int[] whats = {-1, -2, -11, 18, 19, 100, MOST, Integer.MIN_VALUE};
        for (int what : whats) {
            c.due("status(" + what + ")", x.status(what), -1);
        }
        c.due("status(0)", x.status(0), 3);
        c.due("status(17)", x.status(17), 0);
        c.due("no refusals by that", x.status(11), 0);
    }
}
