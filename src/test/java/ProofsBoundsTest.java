/** The bounds of PROOFS and of what is BORNE OUT: T2, promises 18 to 20. What is refused stands in RefusalsTest, too. */
public final class ProofsBoundsTest {
    private static final int MOST = Integer.MAX_VALUE;
    private static final int LEAST = Integer.MIN_VALUE;

    private static final Check c = new Check("ProofsBoundsTest");

    public static void main(String[] args) {
        numbers();
        full();
        subjects();
        lengths();
        asThen();
        givenNow();
        resultsByDay();
        resultsOf();
        resultsNone();
        sums();
        sumsOfAll();
        missingBytes();
        missingShorts();
        missingInts();
        missingLongs();
        missingAlone();
        asInts();
        measures();
        measuresApart();
        measuresBehind();
        claimByOne();
        claimKnown();
        numberNoLess();
        numberThereIsOne();
        numberShare();
        numberShareOfAll();
        numberOfManyProofs();
        upto();
        likenessGreater();
        likenessBothHaveSome();
        likenessModulo();
        likenessOfItself();
        likenessFar();
        ofThatFirmAndSubject();
        feelingAlways();
        knownDay();
        c.end();
    }

    private static void numbers() {
        c.sentence("T2", "PROOFS have numbers, from 0 on, 40 at most");
        AdvertCouncil x = new AdvertCouncil();
        x.row(0, 0, 1);
        for (int n = 0; n < 40; n++) {
            c.due("its number", x.proof(n % 12, n % 16, 0), n);
        }
        c.due("a 41st", x.proof(0, 0, 0), -7);
        c.due("as many", x.status(2), 40);
    }

    private static void full() {
        c.sentence("18", "-7");
        AdvertCouncil x = new AdvertCouncil();
        Check.row(x, 0, 0, 5);
        for (int n = 0; n < 40; n++) {
            x.proof(3, 4, 0);
        }
        for (int n = 1; n <= 3; n++) {
            c.due("a 41st", x.proof(3, 4, 0), -7);
            c.due("each counts", x.status(17), n);
            c.due("RESULTS behind it", x.results(3, 4, 0, 0), 40);
            c.due("their sum behind it", x.results(3, 4, 0, 1), 200);
        }
    }

    private static void subjects() {
        c.sentence("18", "-6 SUBJECT: SUBJECT (0 to 15)");
        AdvertCouncil x = new AdvertCouncil();
        x.row(0, 0, 1);
        c.due("-1", x.proof(0, -1, 0), -6);
        c.due("0", x.proof(0, 0, 0), 0);
        c.due("15", x.proof(0, 15, 0), 1);
        c.due("16", x.proof(0, 16, 0), -6);
        c.due("the greatest", x.proof(0, MOST, 0), -6);
        c.due("as many", x.status(2), 2);
        c.due("RESULTS on 0", x.results(0, 0, 0, 0), 1);
        c.due("RESULTS on 15", x.results(0, 15, 0, 0), 1);
        c.due("RESULTS on 14", x.results(0, 14, 0, 0), 0);
    }

    private static void lengths() {
        c.sentence("T1", "A ROW has .. 0 to 60 elements: of RESULTS");
        AdvertCouncil x = new AdvertCouncil();
        x.row(0, 2, 0);
        x.row(1, 2, 60);
        c.due("none", x.proof(0, 0, 0), 0);
        c.due("none", x.results(0, 0, 0, 0), 0);
        c.due("none's sum", x.results(0, 0, 0, 1), 0);
        c.due("60", x.proof(0, 0, 1), 1);
        c.due("60", x.results(0, 0, 0, 0), 60);
    }

    private static void asThen() {
        c.sentence("T2", "a ROW (as then) of RESULTS");
        AdvertCouncil x = new AdvertCouncil();
        Check.row(x, 0, 2, 4, 5);
        x.proof(0, 0, 0);
        x.set(0, 1, 50);
        c.due("behind a set", x.results(0, 0, 0, 1), 9);
        x.row(0, 2, 1);
        c.due("behind a row", x.results(0, 0, 0, 1), 9);
        c.due("behind a row", x.results(0, 0, 0, 0), 2);
        x.keep(0, -1, 0);
        c.due("behind NOTHING", x.results(0, 0, 0, 1), 9);
    }

    private static void givenNow() {
        c.sentence("18", "A PROOF .. is given NOW");
        AdvertCouncil x = new AdvertCouncil();
        Check.proof(x, 0, 0, 1);
        Check.daysOn(x, 9000);
        Check.proof(x, 0, 0, 1);
        c.due("on the first DAY", x.results(0, 0, 0, 0), 1);
        c.due("ahead of the last DAY", x.results(0, 0, 8999, 0), 1);
        c.due("on the last DAY", x.results(0, 0, 9000, 0), 2);
    }

    private static void resultsByDay() {
        c.sentence("19", "How many RESULTS a FIRM gave on a SUBJECT by DAY k (what 0), their sum (1).");
        AdvertCouncil x = new AdvertCouncil();
        x.days(50);
        Check.proof(x, 0, 0, 7, 8);
        int[] ks = {LEAST, -1, 0, 49, 50, 51, 9000, MOST};
        for (int k : ks) {
            c.due("how many by " + k, x.results(0, 0, k, 0), k >= 50 ? 2 : 0);
            c.due("their sum by " + k, x.results(0, 0, k, 1), k >= 50 ? 15 : 0);
        }
    }

    private static void resultsOf() {
        c.sentence("19", "a FIRM .. on a SUBJECT");
        AdvertCouncil x = new AdvertCouncil();
        for (int firm = 0; firm < 12; firm++) {
            Check.proof(x, firm, 15 - firm, firm, 1);
        }
        for (int firm = 0; firm < 12; firm++) {
            c.due("how many of " + firm, x.results(firm, 15 - firm, 0, 0), 2);
            c.due("their sum of " + firm, x.results(firm, 15 - firm, 0, 1), firm + 1);
            c.due("on another SUBJECT", x.results(firm, 14 - firm, 0, 0), 0);
        }
    }

    private static void resultsNone() {
        c.sentence("19", "NONE - 9,999,999 (so -10,000,000): no such FIRM, SUBJECT, what.");
        AdvertCouncil x = new AdvertCouncil();
        int[][] not = {{-1, 0, 0}, {12, 0, 0}, {0, -1, 0}, {0, 16, 0}, {0, 0, -1}, {0, 0, 2}, {LEAST, 0, 0}, {0, MOST, 1}};
        for (int[] n : not) {
            c.due("results(" + n[0] + ", " + n[1] + ", 0, " + n[2] + ")", x.results(n[0], n[1], 0, n[2]), -10000000L);
        }
        c.due("the first ones", x.results(0, 0, 0, 0), 0);
        c.due("the last ones", x.results(11, 15, 0, 1), 0);
    }

    private static void sums() {
        c.sentence("19", "their sum (1): a long");
        AdvertCouncil x = new AdvertCouncil();
        Check.proof(x, 0, 0, MOST, MOST, 1);
        c.due("above an int", x.results(0, 0, 0, 1), 2L * MOST + 1);
        Check.proof(x, 1, 0, -MOST, -MOST, -MOST);
        c.due("below an int", x.results(1, 0, 0, 1), -3L * MOST);
        Check.proof(x, 2, 0, -10000000);
        c.due("just what NONE would be", x.results(2, 0, 0, 1), -10000000L);
        Check.proof(x, 3, 0, 1, -1);
        c.due("none", x.results(3, 0, 0, 1), 0);
        c.due("of two", x.results(3, 0, 0, 0), 2);
    }

    private static void sumsOfAll() {
        c.sentence("19", "their sum: of 40 PROOFS of 60 RESULTS");
        AdvertCouncil x = new AdvertCouncil();
        x.row(0, 2, 60);
        x.set(0, 0, MOST);
        for (int n = 1; n < 60; n *= 2) {
            x.copy(0, 0, 0, n, Math.min(n, 60 - n));
        }
        for (int n = 0; n < 40; n++) {
            x.proof(0, 0, 0);
        }
        c.due("how many", x.results(0, 0, 0, 0), 2400);
        c.due("their sum", x.results(0, 0, 0, 1), 2400L * MOST);
    }

    /** Which of some elements of a SORT are given, and what they add up to. */
    private static void given(int sort, int count, long sum, long... elements) {
        AdvertCouncil x = new AdvertCouncil();
        Check.row(x, 0, sort, elements);
        x.proof(0, 0, 0);
        c.due("how many of SORT " + sort, x.results(0, 0, 0, 0), count);
        c.due("their sum of SORT " + sort, x.results(0, 0, 0, 1), sum);
    }

    private static void missingBytes() {
        c.sentence("T2", "those that are MISSING (the least number of the SORT) weren't given: bytes");
        given(0, 0, 0, -128);
        given(0, 1, -127, -127);
        given(0, 0, 0, 128);
        given(0, 1, 127, 127);
        given(0, 3, 3, 1, -128, 0, -128, 2, -128);
    }

    private static void missingShorts() {
        c.sentence("T2", "those that are MISSING (the least number of the SORT) weren't given: shorts");
        given(1, 0, 0, -32768);
        given(1, 1, -32767, -32767);
        given(1, 0, 0, 32768);
        given(1, 1, -128, -128);
        given(1, 2, 3, -32768, 1, 2);
    }

    private static void missingInts() {
        c.sentence("T2", "those that are MISSING (the least number of the SORT) weren't given: ints");
        given(2, 0, 0, LEAST);
        given(2, 1, -MOST, -MOST);
        given(2, 0, 0, 1L << 31);
        given(2, 2, -32768 - 128, -32768, -128);
        given(2, 1, 0, 0, LEAST);
    }

    private static void missingLongs() {
        c.sentence("T2", "those that are MISSING (the least number of the SORT) weren't given: longs");
        given(3, 0, 0, Long.MIN_VALUE);
        given(3, 1, 1, Long.MIN_VALUE + 1);
        given(3, 1, -1, Long.MAX_VALUE);
        given(3, 1, LEAST, LEAST);
        given(3, 1, LEAST, 1L << 31);
        given(3, 1, 0, 1L << 32);
        given(3, 3, LEAST - 32768L - 128, LEAST, -32768, -128);
        given(3, 2, 3, 1, Long.MIN_VALUE, 2);
    }

    private static void missingAlone() {
        c.sentence("T2", "weren't given: one such PROOF (RESULTS or not)");
        AdvertCouncil x = claimsOfAllKinds();
        Check.row(x, 0, 1, -32768, -32768);
        x.proof(2, 1, 0);
        borneOut(x, "MISSING alone", 1, 0, 0, 0, 1);
        Check.proof(x, 3, 1, -5);
        borneOut(x, "the other has one", 1, 0, 0, 0, 1);
        Check.row(x, 0, 1, -32768, 10, -32768, -32768);
        x.proof(2, 1, 0);
        borneOut(x, "one of four was given", 1, 1, 1, 1, 1);
    }

    private static void asInts() {
        c.sentence("T1", "Everywhere elements count as ints (of longs the lowest 32 bits): RESULTS");
        given(3, 2, 12, (1L << 32) + 5, 7 - (1L << 40));
        given(3, 1, -1, (1L << 32) - 1);
        given(0, 2, -2, 255, 511);
        AdvertCouncil x = claimsOfAllKinds();
        Check.row(x, 0, 3, (1L << 40) + 9, (1L << 40) + 9, 10 - (1L << 40));
        x.proof(2, 1, 0);
        borneOut(x, "one of three is no less than 10", 1, 0, 1, 0, 1);
    }

    private static void measures() {
        c.sentence("20", "SHARE (what 0), TENTH (1) becomes n (1 to 100): what it was.");
        AdvertCouncil x = new AdvertCouncil();
        int[] was = {50, 10};
        for (int what = 0; what < 2; what++) {
            c.due("0", x.measure(what, 0), -6);
            c.due("1", x.measure(what, 1), was[what]);
            c.due("101", x.measure(what, 101), -6);
            c.due("100", x.measure(what, 100), 1);
            c.due("-1", x.measure(what, -1), -6);
            c.due("the same", x.measure(what, 100), 100);
            c.due("50", x.measure(what, 50), 100);
        }
        c.due("what -1", x.measure(-1, 50), -6);
        c.due("what 2", x.measure(2, 50), -6);
        c.due("refused", x.status(16), 8);
    }

    private static void measuresApart() {
        c.sentence("20", "SHARE (what 0), TENTH (1): each its own");
        AdvertCouncil x = new AdvertCouncil();
        c.due("SHARE at first", x.measure(0, 70), 50);
        c.due("TENTH at first", x.measure(1, 30), 10);
        c.due("SHARE", x.measure(0, 71), 70);
        c.due("TENTH", x.measure(1, 31), 30);
        AdvertCouncil other = new AdvertCouncil();
        c.due("another object's TENTH", other.measure(1, 1), 10);
        c.due("another object's SHARE", other.measure(0, 1), 50);
    }

    private static void measuresBehind() {
        c.sentence("20", "-6 either: nothing changes");
        AdvertCouncil x = new AdvertCouncil();
        x.measure(0, 101);
        x.measure(0, 0);
        x.measure(1, 101);
        x.measure(1, 0);
        x.measure(2, 5);
        x.measure(-1, 5);
        c.due("SHARE", x.measure(0, 50), 50);
        c.due("TENTH", x.measure(1, 10), 10);
    }

    /** Of FIRM 2: CLAIM, NUMBER 10, UPTO 10, LIKENESS to FIRM 3, FEELING, all on SUBJECT 1. */
    private static AdvertCouncil claimsOfAllKinds() {
        AdvertCouncil x = new AdvertCouncil();
        Check.phrase(x, 0, 1, 10, 0, 1);
        Check.phrase(x, 1, 1, 10, 0, 1);
        Check.phrase(x, 5, 1, 10, 0, 1);
        Check.phrase(x, 2, 1, 3, 0, 1);
        Check.phrase(x, 4, 1, 10, 0, 1);
        Check.advert(x, 2, 0, 1);
        return x;
    }

    private static void borneOut(AdvertCouncil x, String when, int... due) {
        for (int i = 0; i < due.length; i++) {
            c.due("claim " + i + " BORNE OUT, " + when, x.claim(0, i, 6), due[i]);
        }
    }

    private static void claimByOne() {
        c.sentence("T2", "CLAIM: if there is one such PROOF (RESULTS or not).");
        AdvertCouncil x = claimsOfAllKinds();
        borneOut(x, "none", 0);
        Check.proof(x, 2, 1);
        borneOut(x, "one of no RESULTS", 1, 0, 0, 0, 1);
        x = claimsOfAllKinds();
        Check.proof(x, 2, 1, -5);
        borneOut(x, "one of a RESULT", 1, 0, 0, 0, 1);
    }

    private static void claimKnown() {
        c.sentence("T2", "as KNOWN k, by RESULTS that were given .. on k or earlier: as KNOWN NOW");
        AdvertCouncil x = claimsOfAllKinds();
        x.days(50);
        Check.proof(x, 2, 1, 10);
        borneOut(x, "on its DAY", 1, 1, 1, 0, 1);
        x.days(1);
        borneOut(x, "the DAY behind it", 1, 1, 1, 0, 1);
    }

    private static void numberNoLess() {
        c.sentence("T2", "NUMBER: if SHARE .. of RESULTS or more are no less than its NUMBER");
        int[] results = {9, 10, 11, -10, MOST, -MOST};
        int[] due = {0, 1, 1, 0, 1, 0};
        for (int n = 0; n < results.length; n++) {
            AdvertCouncil x = claimsOfAllKinds();
            Check.proof(x, 2, 1, results[n]);
            borneOut(x, "by " + results[n], 1, due[n], due[n], 0, 1);
        }
        AdvertCouncil zero = new AdvertCouncil();
        Check.phrase(zero, 1, 0, 0, 0, 1);
        Check.phrase(zero, 1, 0, 999, 0, 1);
        Check.advert(zero, 0, 0, 1);
        Check.proof(zero, 0, 0, 0, -1);
        borneOut(zero, "NUMBER 0 by 0 and -1", 1, 0);
        Check.proof(zero, 0, 0, 998, 998, 999, 999);
        borneOut(zero, "NUMBER 999 by two of six", 1, 0);
        Check.proof(zero, 0, 0, 999, 999);
        borneOut(zero, "NUMBER 999 by four of eight", 1, 1);
    }

    private static void numberThereIsOne() {
        c.sentence("T2", "and there is one");
        AdvertCouncil x = claimsOfAllKinds();
        x.measure(0, 1);
        x.measure(1, 1);
        borneOut(x, "no PROOF", 0, 0, 0, 0, 1);
        Check.proof(x, 2, 1);
        borneOut(x, "no RESULTS", 1, 0, 0, 0, 1);
        Check.proof(x, 2, 1, 10);
        borneOut(x, "one", 1, 1, 1, 0, 1);
    }

    /** FIRM 2 gives good RESULTS (10) and bad ones (9). */
    private static void give(AdvertCouncil x, int good, int bad) {
        for (int n = 0; n < good + bad; n += 60) {
            int size = Math.min(60, good + bad - n);
            x.row(0, 0, size);
            for (int i = 0; i < size; i++) {
                x.set(0, i, n + i < good ? 10 : 9);
            }
            x.proof(2, 1, 0);
        }
    }

    private static void numberIs(int share, int good, int bad, int due) {
        AdvertCouncil x = claimsOfAllKinds();
        x.measure(0, share);
        x.measure(1, 101 - share);
        give(x, good, bad);
        c.due(good + " of " + (good + bad) + " by SHARE " + share, x.claim(0, 1, 6), due);
        x.measure(0, 101 - share);
        x.measure(1, share);
        c.due(good + " of " + (good + bad) + " by TENTH " + share, x.claim(0, 2, 6), due);
    }

    private static void numberShare() {
        c.sentence("T2", "if SHARE (of 100 ..) of RESULTS or more");
        numberIs(50, 1, 1, 1);
        numberIs(50, 1, 2, 0);
        numberIs(50, 2, 1, 1);
        numberIs(51, 1, 1, 0);
        numberIs(49, 1, 1, 1);
        numberIs(33, 1, 2, 1);
        numberIs(34, 1, 2, 0);
        numberIs(66, 2, 1, 1);
        numberIs(67, 2, 1, 0);
        numberIs(50, 50, 50, 1);
        numberIs(50, 50, 51, 0);
        numberIs(50, 49, 50, 0);
    }

    private static void numberShareOfAll() {
        c.sentence("T2", "SHARE (of 100): 1 and 100");
        numberIs(100, 3, 0, 1);
        numberIs(100, 3, 1, 0);
        numberIs(100, 59, 1, 0);
        numberIs(100, 100, 1, 0);
        numberIs(100, 101, 0, 1);
        numberIs(99, 99, 1, 1);
        numberIs(99, 98, 1, 0);
        numberIs(1, 1, 99, 1);
        numberIs(1, 1, 100, 0);
        numberIs(1, 0, 100, 0);
    }

    private static void numberOfManyProofs() {
        c.sentence("T2", "by RESULTS that were given in that FIRM's PROOFS");
        AdvertCouncil x = claimsOfAllKinds();
        x.row(0, 0, 60);
        for (int n = 0; n < 39; n++) {
            x.proof(2, 1, 0);
        }
        x.set(0, 0, 10);
        for (int n = 1; n < 60; n *= 2) {
            x.copy(0, 0, 0, n, Math.min(n, 60 - n));
        }
        x.measure(0, 2);
        x.measure(1, 3);
        c.due("60 of 2,340", x.claim(0, 1, 6), 0);
        x.proof(2, 1, 0);
        borneOut(x, "60 of 2,400 by 2 and by 3", 1, 1, 0);
    }

    private static void upto() {
        c.sentence("T2", "UPTO: so with TENTH (10 at first) in place of SHARE.");
        AdvertCouncil x = claimsOfAllKinds();
        give(x, 1, 9);
        borneOut(x, "one of ten", 1, 0, 1, 0, 1);
        give(x, 0, 1);
        borneOut(x, "one of eleven", 1, 0, 0, 0, 1);
        x.measure(1, 9);
        borneOut(x, "one of eleven by 9", 1, 0, 1, 0, 1);
        x.measure(0, 9);
        borneOut(x, "both by 9", 1, 1, 1, 0, 1);
        x.measure(0, 10);
        borneOut(x, "SHARE by 10", 1, 0, 1, 0, 1);
    }

    private static void likeness(int due, long[] own, long[] other) {
        AdvertCouncil x = claimsOfAllKinds();
        Check.proof(x, 2, 1, own);
        Check.proof(x, 3, 1, other);
        c.due("LIKENESS", x.claim(0, 3, 6), due);
    }

    private static void likenessGreater() {
        c.sentence("T2", "LIKENESS: if the mean of RESULTS is greater than that of the FIRM NUMBER modulo 12");
        likeness(0, new long[] {5}, new long[] {5});
        likeness(1, new long[] {6}, new long[] {5});
        likeness(0, new long[] {4}, new long[] {5});
        likeness(1, new long[] {5, 6}, new long[] {5, 5, 6});
        likeness(0, new long[] {5, 5, 6}, new long[] {5, 6});
        likeness(0, new long[] {1, 2, 3}, new long[] {2});
        likeness(1, new long[] {2, 2, 3}, new long[] {2});
        likeness(0, new long[] {-5}, new long[] {-5});
        likeness(1, new long[] {-5}, new long[] {-6});
        likeness(0, new long[] {-6}, new long[] {-5});
        likeness(1, new long[] {-5, -6}, new long[] {-5, -6, -6});
        likeness(0, new long[] {-5, -6, -6}, new long[] {-5, -6});
        likeness(0, new long[] {0}, new long[] {0, 0});
        likeness(1, new long[] {100}, new long[] {99, 99, 99, 99});
        likeness(0, new long[] {-1, 1}, new long[] {0});
        likeness(1, new long[] {MOST, MOST}, new long[] {5, 5});
        likeness(0, new long[] {-MOST, -MOST}, new long[] {-5, -5});
        likeness(1, new long[] {MOST}, new long[] {-MOST});
        likeness(0, new long[] {-MOST, 1}, new long[] {MOST, 1});
    }

    private static void likenessBothHaveSome() {
        c.sentence("T2", "and both have some");
        likeness(0, new long[] {}, new long[] {});
        likeness(0, new long[] {5}, new long[] {});
        likeness(0, new long[] {}, new long[] {-5});
        AdvertCouncil x = claimsOfAllKinds();
        Check.proof(x, 2, 1, 5);
        borneOut(x, "the other gave no PROOF", 1, 0, 0, 0);
        Check.row(x, 0, 0, -128);
        x.proof(3, 1, 0);
        borneOut(x, "the other's is MISSING", 1, 0, 0, 0);
        Check.proof(x, 3, 1, -5);
        borneOut(x, "the other has one", 1, 0, 0, 1);
    }

    private static void likenessModulo() {
        c.sentence("T2", "the FIRM NUMBER modulo 12");
        int[] numbers = {0, 11, 12, 23, 24, 999, 988};
        int[] firms = {0, 11, 0, 11, 0, 3, 4};
        for (int n = 0; n < numbers.length; n++) {
            AdvertCouncil x = new AdvertCouncil();
            Check.phrase(x, 2, 15, numbers[n], 0, 1);
            Check.advert(x, 5, 0, 1);
            Check.proof(x, 5, 15, 7);
            for (int firm = 0; firm < 12; firm++) {
                if (firm != firms[n] && firm != 5) {
                    Check.proof(x, firm, 15, 6);
                }
            }
            c.due("NUMBER " + numbers[n] + ", all others", x.claim(0, 0, 6), 0);
            Check.proof(x, firms[n], 15, 6);
            c.due("NUMBER " + numbers[n] + ", FIRM " + firms[n], x.claim(0, 0, 6), 1);
        }
    }

    private static void likenessOfItself() {
        c.sentence("T2", "greater than that of the FIRM NUMBER modulo 12: its own");
        AdvertCouncil x = new AdvertCouncil();
        Check.phrase(x, 2, 1, 2, 0, 1);
        Check.advert(x, 2, 0, 1);
        Check.proof(x, 2, 1, 5, 50);
        c.due("no greater than itself", x.claim(0, 0, 6), 0);
    }

    private static void likenessFar() {
        c.sentence("T2", "the mean of RESULTS: of as many and as great as there may be");
        AdvertCouncil x = claimsOfAllKinds();
        x.row(0, 2, 60);
        x.set(0, 0, MOST);
        for (int n = 1; n < 60; n *= 2) {
            x.copy(0, 0, 0, n, Math.min(n, 60 - n));
        }
        for (int n = 0; n < 20; n++) {
            x.proof(2, 1, 0);
            if (n < 19) {
                x.proof(3, 1, 0);
            }
        }
        c.due("the same mean", x.claim(0, 3, 6), 0);
        x.set(0, 59, MOST - 1);
        x.proof(3, 1, 0);
        c.due("one less in 1,200", x.claim(0, 3, 6), 1);
        c.due("their sums", x.results(2, 1, 0, 1) - x.results(3, 1, 0, 1), 1);
    }

    private static void ofThatFirmAndSubject() {
        c.sentence("T2", "in that FIRM's PROOFS on that SUBJECT");
        AdvertCouncil x = claimsOfAllKinds();
        Check.proof(x, 2, 0, 10);
        Check.proof(x, 2, 2, 10);
        Check.proof(x, 1, 1, 10);
        Check.proof(x, 3, 0, 1);
        borneOut(x, "other FIRMS' and on other SUBJECTS", 0, 0, 0, 0, 1);
        Check.proof(x, 2, 1, 10);
        borneOut(x, "its own; the other's on another", 1, 1, 1, 0, 1);
        Check.proof(x, 3, 1, 1);
        borneOut(x, "the other's on that", 1, 1, 1, 1, 1);
    }

    private static void feelingAlways() {
        c.sentence("T2", "FEELING, LEFT: always.");
        AdvertCouncil x = claimsOfAllKinds();
        c.due("no PROOF", x.claim(0, 4, 6), 1);
        Check.proof(x, 2, 1, -5);
        c.due("a bad one", x.claim(0, 4, 6), 1);
    }

    private static void knownDay() {
        c.sentence("T2", "BORNE OUT as KNOWN k .. on k or earlier");
        AdvertCouncil x = claimsOfAllKinds();
        Check.rule(x, 0, "b:p=1");
        x.days(30);
        Check.proof(x, 2, 1, 10);
        x.days(30);
        Check.proof(x, 3, 1, 9);
        x.days(30);
        int[][] due = {
            {0, -1, -1, -1, -1, 0}, {29, -1, -1, -1, -1, 0}, {30, 0, 0, 0, -1, 0}, {59, 0, 0, 0, -1, 0}, {60, 0, 0, 0, 0, 0},
        };
        for (int[] d : due) {
            for (int i = 0; i < 5; i++) {
                c.due("bars(0, " + i + ", 0, " + d[0] + ")", x.bars(0, i, 0, d[0]), d[1 + i]);
                c.due("bars(0, " + i + ", 90, " + d[0] + ")", x.bars(0, i, 90, d[0]), d[1 + i]);
            }
        }
    }
}
