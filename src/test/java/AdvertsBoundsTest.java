/** The bounds of ADVERTS: T1, promises 9 to 12, 39 and 40. What is refused stands in RefusalsTest, too. */
public final class AdvertsBoundsTest {
    private static final Check c = new Check("AdvertsBoundsTest");

    public static void main(String[] args) {
        firms();
        firmsEverywhere();
        numbers();
        fullBehind();
        lastOfAll();
        oneBehindAll();
        media();
        words();
        wordsAsTold();
        wordsAsInts();
        dayTold();
        printAtFirst();
        printLength();
        printSizes();
        printAsTold();
        printAsInts();
        printAnew();
        sawAtFirst();
        sawOfEach();
        sawInAll();
        sawBehind();
        aboutAll();
        papers();
        papersApart();
        paperDays();
        stoppedNot();
        c.end();
    }

    private static void firms() {
        c.sentence("T1", "FIRMS are 0 to 11.");
        AdvertCouncil x = new AdvertCouncil();
        x.row(0, 0, 0);
        c.due("advert(-1)", x.advert(-1, 0, 0), -1);
        c.due("advert(0)", x.advert(0, 0, 0), 0);
        c.due("advert(11)", x.advert(11, 0, 0), 1);
        c.due("advert(12)", x.advert(12, 0, 0), -1);
        c.due("its FIRM", x.about(0, 0), 0);
        c.due("its FIRM", x.about(1, 0), 11);
        c.due("as many ADVERTS", x.status(0), 2);
    }

    private static void firmsEverywhere() {
        c.sentence("T1", "FIRMS are 0 to 11: of a PROOF, a STEP, one of KIN");
        AdvertCouncil x = new AdvertCouncil();
        x.row(0, 0, 1);
        int[] firms = {-1, 0, 11, 12};
        for (int n = 0; n < firms.length; n++) {
            int firm = firms[n];
            boolean is = n == 1 || n == 2;
            c.due("proof of " + firm, x.proof(firm, 0, 0), is ? n - 1 : -1);
            c.due("results of " + firm, x.results(firm, 0, 0, 0), is ? 1 : -10000000);
            c.due("step of " + firm, x.step(firm), is ? 0 : -1);
        }
        c.due("a SEAT KIN to 11", x.seat(1 << 11), 0);
        c.due("a SEAT KIN to 12", x.seat(1 << 12), -1);
        c.due("a SEAT KIN to 0", x.seat(1), 1);
        c.due("kin to -1", x.kin(0, -1), -1);
        c.due("kin to 0", x.kin(0, 0), 0);
        c.due("kin to 11", x.kin(1, 11), 0);
        c.due("kin to 12", x.kin(0, 12), -1);
        c.due("KIN to 11 from the first", x.kin(0, 11), -6);
        c.due("KIN to 0 from the first", x.kin(1, 0), -6);
    }

    private static void numbers() {
        c.sentence("T1", "ADVERTS have numbers, from 0 on, 24 at most");
        AdvertCouncil x = new AdvertCouncil();
        x.row(0, 0, 1);
        for (int n = 0; n < 24; n++) {
            c.due("none yet", x.about(n, 0), -1);
            c.due("its number", x.advert(n % 12, 0, 0), n);
            c.due("its FIRM", x.about(n, 0), n % 12);
        }
        c.due("a 25th", x.advert(0, 0, 0), -7);
        c.due("none of its number", x.about(24, 0), -1);
        c.due("as many", x.status(0), 24);
    }

    private static void fullBehind() {
        c.sentence("9", "-7");
        AdvertCouncil x = new AdvertCouncil();
        x.row(0, 0, 1);
        for (int n = 0; n < 24; n++) {
            x.advert(1, 2, 0);
        }
        x.row(0, 0, 2);
        for (int n = 1; n <= 3; n++) {
            c.due("a 25th", x.advert(5, 4, 0), -7);
            c.due("each counts", x.status(17), n);
        }
        c.due("the last FIRM behind it", x.about(23, 0), 1);
        c.due("the last MEDIUM behind it", x.about(23, 1), 2);
        c.due("the last WORDS behind it", x.about(23, 2), 1);
        c.due("the last can be asked", x.saw(23, 1, 0), 1);
        c.due("the one behind it can't", x.saw(24, 1, 0), -1);
    }

    /** 24 ADVERTS of one CLAIM each, all BARRED; the last is of FIRM 11 in MEDIUM 5. */
    private static AdvertCouncil twentyFour() {
        AdvertCouncil x = new AdvertCouncil();
        Check.phrase(x, 0, 1, 1, 0, 1);
        Check.row(x, 0, 0, 1);
        for (int n = 0; n < 24; n++) {
            x.advert(n / 2, n % 2 == 0 ? 0 : 5, 0);
        }
        for (int n = 0; n < 3; n++) {
            x.seat(0);
        }
        Check.rule(x, 0, "b:k=0");
        return x;
    }

    private static void lastOfAll() {
        c.sentence("T1", "24 at most: what each call answers for the last");
        AdvertCouncil x = twentyFour();
        c.due("claims", x.claims(23, 0, 0), 1);
        c.due("claim", x.claim(23, 0, 1), 1);
        c.due("keep", x.keep(7, 23, 0), 0);
        c.due("bars", x.bars(23, 0, 0, 0), 0);
        c.due("decide", x.decide(23, 0, 7, 0), 0);
        c.due("its FIRM", x.ruling(0, 0), 11);
        c.due("its MEDIUM", x.ruling(0, 1), 5);
        c.due("like", x.like(23, 0, 0), 0);
        c.due("apart", x.apart(0, 23, 0), 0);
        c.due("binding", x.binding(23, 0), 0);
        c.due("clash", x.clash(23, 0), 0);
        c.due("least", x.least(23), 1);
        c.due("judge", x.judge(23, 0), -6);
        x.row(0, 0, 1);
        c.due("judge", x.judge(23, 0), 1);
        c.due("print", x.print(23, 0, 20), 0);
        c.due("saw", x.saw(23, 1, 1), 2);
        c.due("stop", x.stop(7, 23, false), 1);
        c.due("stopped", x.stopped(7, 23, false), 0);
        c.due("all of them", x.beside(1), 24);
    }

    private static void oneBehindAll() {
        c.sentence("T5", "-1 NOBODY: no such .. ADVERT: one more than the last");
        AdvertCouncil x = twentyFour();
        x.decide(0, 0, 7, 0);
        c.due("claims", x.claims(24, 0, 0), -1);
        c.due("claim", x.claim(24, 0, 1), -1);
        c.due("bars", x.bars(24, 0, 0, 0), -1);
        c.due("like", x.like(24, 0, 0), -1);
        c.due("apart", x.apart(0, 24, 0), -1);
        c.due("binding", x.binding(24, 0), -1);
        c.due("clash", x.clash(24, 0), -1);
        c.due("stopped", x.stopped(7, 24, false), -1);
        c.due("no refusals", x.status(11), 0);
        c.due("keep", x.keep(7, 24, 0), -1);
        c.due("decide", x.decide(24, 0, 7, 0), -1);
        c.due("least", x.least(24), -1);
        c.due("judge", x.judge(24, 0), -1);
        c.due("print", x.print(24, 0, 20), -1);
        c.due("saw", x.saw(24, 1, 1), -1);
        c.due("stop", x.stop(7, 24, false), -1);
        c.due("refused", x.status(11), 7);
    }

    private static void media() {
        c.sentence("T1", "in a MEDIUM (0 to 5)");
        AdvertCouncil x = new AdvertCouncil();
        x.row(0, 0, 1);
        c.due("-1", x.advert(0, -1, 0), -6);
        for (int medium = 0; medium < 6; medium++) {
            c.due("medium " + medium, x.advert(0, medium, 0), medium);
            c.due("it is kept", x.about(medium, 1), medium);
        }
        c.due("6", x.advert(0, 6, 0), -6);
        c.due("7", x.advert(0, 7, 0), -6);
        c.due("as many", x.status(0), 6);
    }

    private static void words() {
        c.sentence("T1", "WORDS (a ROW of 20 elements at most)");
        AdvertCouncil x = new AdvertCouncil();
        int[] sizes = {0, 1, 19, 20, 21, 22, 60};
        for (int n = 0; n < sizes.length; n++) {
            x.row(0, 0, sizes[n]);
            c.due(sizes[n] + " WORDS", x.advert(0, 0, 0), sizes[n] <= 20 ? n : -6);
            c.due(sizes[n] + " WORDS", x.about(n, 2), sizes[n] <= 20 ? sizes[n] : -1);
        }
        c.due("refused", x.status(16), 3);
        Check.phrase(x, 0, 1, 1, 0, 0);
        c.due("each of 20 is READ", x.claims(3, 0, 0), 20);
        c.due("none of none", x.claims(0, 0, 0), 0);
    }

    private static void wordsAsTold() {
        c.sentence("T1", "as they were when told: WORDS");
        AdvertCouncil x = new AdvertCouncil();
        Check.phrase(x, 0, 1, 1, 0, 5);
        Check.row(x, 0, 2, 5, 6, 5);
        x.advert(0, 0, 0);
        x.set(0, 0, 6);
        c.due("behind a set", x.claims(0, 0, 0), 2);
        x.copy(0, 0, 1, 2, 1);
        c.due("behind a copy", x.claims(0, 0, 0), 2);
        x.row(0, 2, 1);
        c.due("behind a row", x.claims(0, 0, 0), 2);
        c.due("behind a row", x.about(0, 2), 3);
        x.keep(0, 0, 0);
        c.due("behind a CLAIM", x.claims(0, 0, 0), 2);
        x.keep(0, -1, 0);
        c.due("behind NOTHING", x.claims(0, 0, 0), 2);
    }

    private static void wordsAsInts() {
        c.sentence("T1", "Everywhere elements count as ints (of longs the lowest 32 bits): WORDS");
        AdvertCouncil x = new AdvertCouncil();
        Check.phrase(x, 0, 1, 1, 0, -1);
        Check.phrase(x, 0, 1, 2, 0, 200);
        long[][] rows = {{-1, 200}, {-1, 200}, {-1, 200}, {(1L << 32) - 1, (1L << 32) + 200}};
        int[] due = {1, 2, 2, 2};
        for (int sort = 0; sort < 4; sort++) {
            Check.row(x, 0, sort, rows[sort]);
            x.advert(0, 0, 0);
            c.due("SORT " + sort, x.claims(sort, 0, 0), due[sort]);
        }
        Check.row(x, 0, 3, Long.MIN_VALUE, 0, Long.MAX_VALUE, 200 - (1L << 40));
        x.advert(0, 0, 0);
        c.due("the greatest long is -1, too", x.claims(4, 0, 0), 2);
        c.due("the greatest long's place", x.claim(4, 0, 3), 2);
    }

    private static void dayTold() {
        c.sentence("12", "7 the DAY on which it was told");
        AdvertCouncil x = new AdvertCouncil();
        Check.advert(x, 0, 0);
        Check.daysOn(x, 8999);
        Check.advert(x, 0, 0);
        x.days(1);
        Check.advert(x, 0, 0);
        c.due("the first DAY", x.about(0, 7), 0);
        c.due("the last but one", x.about(1, 7), 8999);
        c.due("the last", x.about(2, 7), 9000);
    }

    private static void printAtFirst() {
        c.sentence("T1", "PRINT (.. at first empty, SIZE 0)");
        AdvertCouncil x = new AdvertCouncil();
        Check.phrase(x, 0, 1, 1, 0, 1);
        Check.phrase(x, 3, 1, 1, 0, 0);
        Check.rule(x, 0, "b:z=0&l=0");
        Check.advert(x, 0, 0, 1);
        c.due("none in PRINT", x.about(0, 3), 0);
        c.due("SIZE", x.about(0, 4), 0);
        c.due("nothing is TAKEN BACK", x.claim(0, 0, 5), 0);
        c.due("a RULE sees it", x.bars(0, 0, 0, 0), 0);
    }

    private static void printLength() {
        c.sentence("T1", "PRINT (a ROW of 12 at most ..)");
        AdvertCouncil x = new AdvertCouncil();
        Check.advert(x, 0, 0, 1);
        int[] sizes = {0, 1, 12, 13, 14, 60};
        for (int size : sizes) {
            x.row(0, 0, size);
            c.due(size + " in PRINT", x.print(0, 0, 5), size > 12 ? -6 : size == 0 ? 0 : 5);
            c.due(size + " in PRINT", x.about(0, 3), Math.min(size, 12));
        }
        c.due("refused", x.status(16), 3);
        AdvertCouncil last = new AdvertCouncil();
        Check.phrase(last, 0, 1, 1, 0, 1);
        Check.phrase(last, 3, 1, 1, 0, 9);
        Check.advert(last, 0, 0, 1);
        c.due("twelve", Check.print(last, 0, 0, 0, 0, 0, 0, 0, 0, 0, 0, 0, 0, 0, 9), 0);
        c.due("the twelfth is READ", last.claim(0, 0, 5), 1);
    }

    private static void printSizes() {
        c.sentence("10", "of a SIZE (0 to 20): its size before");
        AdvertCouncil x = new AdvertCouncil();
        Check.advert(x, 0, 0, 1);
        Check.advert(x, 0, 0, 1);
        x.row(0, 0, 3);
        c.due("20", x.print(0, 0, 20), 0);
        c.due("SIZE", x.about(0, 4), 20);
        c.due("21", x.print(0, 0, 21), -6);
        c.due("-1", x.print(0, 0, -1), -6);
        c.due("SIZE behind it", x.about(0, 4), 20);
        c.due("0", x.print(0, 0, 0), 20);
        c.due("SIZE", x.about(0, 4), 0);
        c.due("1", x.print(0, 0, 1), 0);
        c.due("1 once more", x.print(0, 0, 1), 1);
        c.due("the other's before", x.print(1, 0, 7), 0);
        c.due("the first's", x.about(0, 4), 1);
    }

    private static void printAsTold() {
        c.sentence("T1", "as they were when told: PRINT");
        AdvertCouncil x = new AdvertCouncil();
        Check.phrase(x, 0, 1, 1, 0, 1);
        Check.phrase(x, 3, 1, 1, 0, 5);
        Check.advert(x, 0, 0, 1);
        Check.row(x, 0, 2, 6, 5);
        x.print(0, 0, 3);
        x.set(0, 1, 6);
        c.due("behind a set", x.claim(0, 0, 5), 1);
        x.row(0, 2, 0);
        c.due("behind a row", x.claim(0, 0, 5), 1);
        c.due("behind a row", x.about(0, 3), 2);
        x.keep(0, -1, 0);
        c.due("behind NOTHING", x.claim(0, 0, 5), 1);
    }

    private static void printAsInts() {
        c.sentence("T1", "Everywhere elements count as ints (of longs the lowest 32 bits): PRINT");
        AdvertCouncil x = new AdvertCouncil();
        Check.phrase(x, 0, 1, 1, 0, 1);
        Check.phrase(x, 3, 1, 1, 0, -3);
        Check.advert(x, 0, 0, 1);
        for (int sort = 0; sort < 4; sort++) {
            Check.row(x, 0, sort, sort == 3 ? (7L << 32) - 3 : -3);
            x.print(0, 0, 0);
            c.due("SORT " + sort, x.claim(0, 0, 5), 1);
        }
        Check.row(x, 0, 0, 253);
        x.print(0, 0, 0);
        c.due("a byte of 253", x.claim(0, 0, 5), 1);
        Check.row(x, 0, 1, 253);
        x.print(0, 0, 0);
        c.due("a short of 253", x.claim(0, 0, 5), 0);
    }

    private static void printAnew() {
        c.sentence("10", "PRINT of an ADVERT is the ROW in SHELF s");
        AdvertCouncil x = new AdvertCouncil();
        Check.phrase(x, 0, 1, 1, 0, 1);
        Check.phrase(x, 3, 1, 1, 0, 5, 6);
        Check.advert(x, 0, 0, 1);
        Check.advert(x, 0, 0, 1);
        Check.print(x, 0, 2, 5, 6);
        c.due("TAKEN BACK", x.claim(0, 0, 5), 1);
        c.due("the other's isn't", x.claim(1, 0, 5), 0);
        Check.print(x, 0, 2, 5);
        c.due("one of it", x.claim(0, 0, 5), 0);
        c.due("how many", x.about(0, 3), 1);
        Check.print(x, 0, 2, 6);
        c.due("the other of it: PRINT is no more than the latest", x.claim(0, 0, 5), 0);
        Check.print(x, 0, 2);
        c.due("empty again", x.about(0, 3), 0);
        c.due("its SIZE", x.about(0, 4), 2);
    }

    private static void sawAtFirst() {
        c.sentence("T1", "SAW: children, others (.. 0 at first)");
        AdvertCouncil x = new AdvertCouncil();
        Check.advert(x, 0, 0, 1);
        c.due("children", x.about(0, 5), 0);
        c.due("others", x.about(0, 6), 0);
        c.due("none more", x.saw(0, 0, 0), 0);
        c.due("children", x.about(0, 5), 0);
    }

    private static void sawOfEach() {
        c.sentence("11", "(0 to 9,999 each)");
        AdvertCouncil x = new AdvertCouncil();
        for (int n = 0; n < 3; n++) {
            Check.advert(x, 0, 0, 1);
        }
        c.due("10,000 children", x.saw(0, 10000, 0), -6);
        c.due("10,000 others", x.saw(0, 0, 10000), -6);
        c.due("-1 children", x.saw(0, -1, 5), -6);
        c.due("-1 others", x.saw(0, 5, -1), -6);
        c.due("behind it", x.saw(0, 0, 0), 0);
        c.due("9,999 children", x.saw(0, 9999, 0), 9999);
        c.due("9,999 others", x.saw(1, 0, 9999), 9999);
        c.due("9,999 of each", x.saw(2, 9999, 9999), 19998);
        c.due("children", x.about(2, 5), 9999);
        c.due("others", x.about(2, 6), 9999);
        c.due("none more", x.saw(2, 0, 0), 19998);
    }

    private static void sawInAll() {
        c.sentence("11", "-7 more than 9,999 of either in all");
        AdvertCouncil x = new AdvertCouncil();
        Check.advert(x, 0, 0, 1);
        Check.advert(x, 0, 0, 1);
        x.saw(0, 5000, 1);
        c.due("10,000 children", x.saw(0, 5000, 0), -7);
        c.due("9,999 children", x.saw(0, 4999, 0), 10000);
        c.due("one child more", x.saw(0, 1, 0), -7);
        c.due("others go on", x.saw(0, 0, 9998), 19998);
        c.due("one other more", x.saw(0, 0, 1), -7);
        x.saw(1, 1, 5000);
        c.due("10,000 others", x.saw(1, 0, 5000), -7);
        c.due("9,999 others", x.saw(1, 0, 4999), 10000);
        c.due("refused", x.status(17), 4);
    }

    private static void sawBehind() {
        c.sentence("11", "nothing changes: neither of them");
        AdvertCouncil x = new AdvertCouncil();
        Check.advert(x, 0, 0, 1);
        x.saw(0, 9000, 20);
        c.due("too many children", x.saw(0, 1000, 30), -7);
        c.due("others", x.about(0, 6), 20);
        c.due("children", x.about(0, 5), 9000);
        c.due("too many others", x.saw(0, 30, 9980), -7);
        c.due("others", x.about(0, 6), 20);
        c.due("children", x.about(0, 5), 9000);
        c.due("others below", x.saw(0, 30, -1), -6);
        c.due("children", x.about(0, 5), 9000);
    }

    private static void aboutAll() {
        c.sentence("12", "NONE: no such one, another what.");
        AdvertCouncil x = House.made();
        int[] due = {-1, 1, 2, 4, 2, 8, 30, 60, 0, -1, -1};
        for (int what = -1; what < 10; what++) {
            c.due("about(0, " + what + ")", x.about(0, what), due[what + 1]);
        }
        c.due("about(-1, 0)", x.about(-1, 0), -1);
        c.due("about(2, 0)", x.about(2, 0), 1);
        c.due("about(3, 0)", x.about(3, 0), -1);
    }

    private static void papers() {
        c.sentence("39", "A paper (0 to 7) is asked NOW to stop an ADVERT: 1; did so: 2 (is).");
        AdvertCouncil x = new AdvertCouncil();
        Check.advert(x, 0, 0, 1);
        for (int paper = 0; paper < 8; paper++) {
            c.due("did, not asked", x.stop(paper, 0, true), -6);
            c.due("asked", x.stop(paper, 0, false), 1);
            c.due("asked again", x.stop(paper, 0, false), -6);
            c.due("did", x.stop(paper, 0, true), 2);
            c.due("did again", x.stop(paper, 0, true), -6);
            c.due("asked when it did", x.stop(paper, 0, false), -6);
        }
        c.due("paper -1 asked", x.stop(-1, 0, false), -1);
        c.due("paper 8 asked", x.stop(8, 0, false), -1);
        c.due("paper -1 did", x.stop(-1, 0, true), -1);
        c.due("paper 8 did", x.stop(8, 0, true), -1);
    }

    private static void papersApart() {
        c.sentence("39", "-1 ADVERT, paper; -6 asked: it was; did: it wasn't asked, or did");
        AdvertCouncil x = new AdvertCouncil();
        x.row(0, 0, 1);
        for (int n = 0; n < 24; n++) {
            x.advert(0, 0, 0);
        }
        c.due("the last ADVERT", x.stop(7, 23, false), 1);
        c.due("the first ADVERT", x.stop(7, 0, true), -6);
        c.due("another paper", x.stop(6, 23, true), -6);
        c.due("another paper asked", x.stop(6, 23, false), 1);
        c.due("one more than the last", x.stop(7, 24, false), -1);
        c.due("one below the first", x.stop(7, -1, false), -1);
        c.due("the first asked", x.stop(7, 0, false), 1);
        c.due("the last did", x.stop(7, 23, true), 2);
        c.due("the first did", x.stop(7, 0, true), 2);
        c.due("another paper didn't", x.stopped(6, 23, true), -1);
    }

    private static void paperDays() {
        c.sentence("40", "The DAY on which a paper was asked (did false), did so");
        AdvertCouncil x = new AdvertCouncil();
        Check.advert(x, 0, 0, 1);
        x.stop(0, 0, false);
        x.stop(0, 0, true);
        c.due("asked on the first DAY", x.stopped(0, 0, false), 0);
        c.due("did on the first DAY", x.stopped(0, 0, true), 0);
        x.days(500);
        x.stop(1, 0, false);
        Check.daysOn(x, 8500);
        x.stop(7, 0, false);
        x.stop(1, 0, true);
        c.due("asked on a later DAY", x.stopped(1, 0, false), 500);
        c.due("did on the last DAY", x.stopped(1, 0, true), 9000);
        c.due("asked on the last DAY", x.stopped(7, 0, false), 9000);
        c.due("asked once more", x.stop(1, 0, false), -6);
        c.due("did once more", x.stop(0, 0, true), -6);
        c.due("the DAY behind it", x.stopped(1, 0, false), 500);
        c.due("the DAY behind it", x.stopped(0, 0, true), 0);
    }

    private static void stoppedNot() {
        c.sentence("40", "NONE: not, no such ones.");
        AdvertCouncil x = new AdvertCouncil();
        Check.advert(x, 0, 0, 1);
        for (int paper = -1; paper <= 8; paper++) {
            c.due("not asked", x.stopped(paper, 0, false), -1);
            c.due("didn't", x.stopped(paper, 0, true), -1);
        }
        c.due("refused", x.stop(3, 0, true), -6);
        c.due("not asked by that", x.stopped(3, 0, false), -1);
        c.due("didn't by that", x.stopped(3, 0, true), -1);
        c.due("no ADVERT", x.stopped(3, 1, false), -1);
        c.due("no ADVERT", x.stopped(3, -1, true), -1);
    }
}
