/** Promises 18 to 20, and what is BORNE OUT (16). */
public final class ProofsTest {
    private static final Check c = new Check("ProofsTest");

    public static void main(String[] args) {
        proof();
        results();
        missing();
        measure();
        numbers();
        likeness();
        knownDays();
        c.end();
    }

    private static void proof() {
        AdvertCouncil x = new AdvertCouncil();
        Check.phrase(x, 0, 1, 1, 0, 1);
        Check.advert(x, 0, 0, 1);
        x.keep(1, 0, 0);
        x.row(0, 0, 60);
        c.due("18 nobody first", x.proof(12, 16, 1), -1);
        c.due("18 nobody first", x.proof(-1, 16, 1), -1);
        c.due("18 no shelf", x.proof(0, 16, 8), -1);
        c.due("18 no shelf", x.proof(0, 16, -1), -1);
        c.due("18 a claim", x.proof(0, 16, 1), -2);
        c.due("18 nothing", x.proof(0, 16, 2), -3);
        c.due("18 subject", x.proof(0, 16, 0), -6);
        c.due("18 subject", x.proof(0, -1, 0), -6);
        c.due("18 sixty", x.proof(11, 15, 0), 0);
        c.due("19 sixty", x.results(11, 15, 0, 0), 60);
        for (int n = 1; n < 40; n++) {
            c.due("18 up to 40", x.proof(0, 0, 0), n);
        }
        c.due("18 room", x.proof(0, 0, 0), -7);
        c.due("18 wrong ahead of room", x.proof(0, 16, 0), -6);
        c.due("18 how many", x.status(2), 40);
        c.due("19 many", x.results(0, 0, 0, 0), 39 * 60);
    }

    private static void results() {
        AdvertCouncil x = new AdvertCouncil();
        x.days(3);
        Check.row(x, 0, 2, 5, -7, Integer.MAX_VALUE, Integer.MAX_VALUE);
        x.proof(2, 4, 0);
        x.set(0, 0, 100);
        x.days(2);
        Check.proof(x, 2, 4, 1);
        c.due("19 count", x.results(2, 4, 3, 0), 4);
        c.due("19 sum as then", x.results(2, 4, 3, 1), 2L * Integer.MAX_VALUE - 2);
        c.due("19 none yet", x.results(2, 4, 2, 0), 0);
        c.due("19 none yet", x.results(2, 4, 2, 1), 0);
        c.due("19 a day of none", x.results(2, 4, -1, 0), 0);
        c.due("19 both", x.results(2, 4, 5, 0), 5);
        c.due("19 both", x.results(2, 4, 9000, 1), 2L * Integer.MAX_VALUE - 1);
        c.due("19 another subject", x.results(2, 5, 5, 0), 0);
        c.due("19 another firm", x.results(3, 4, 5, 0), 0);
        c.due("19 no firm", x.results(12, 4, 5, 0), -10000000);
        c.due("19 no firm", x.results(-1, 4, 5, 0), -10000000);
        c.due("19 no subject", x.results(2, 16, 5, 0), -10000000);
        c.due("19 no subject", x.results(2, -1, 5, 0), -10000000);
        c.due("19 no what", x.results(2, 4, 5, 2), -10000000);
        c.due("19 no what", x.results(2, 4, 5, -1), -10000000);
        c.due("19 nothing is refused", x.status(11) + x.status(16), 0);
    }

    private static void missing() {
        AdvertCouncil x = new AdvertCouncil();
        long[] least = {-128, -32768, Integer.MIN_VALUE, Long.MIN_VALUE};
        for (int sort = 0; sort < 4; sort++) {
            Check.row(x, 0, sort, least[sort], least[sort] + 1, 0);
            x.proof(sort, 0, 0);
            c.due("18 missing in sort " + sort, x.results(sort, 0, 0, 0), 2);
            c.due("18 sum of sort " + sort, x.results(sort, 0, 0, 1), (int) (least[sort] + 1));
        }
        Check.row(x, 0, 1, -128, -32768);
        x.proof(5, 0, 0);
        c.due("18 the least of another sort is given", x.results(5, 0, 0, 1), -128);
        Check.row(x, 0, 3, Integer.MIN_VALUE, 1L << 32, (1L << 32) - 1);
        x.proof(6, 0, 0);
        c.due("18 a long's lowest bits are given", x.results(6, 0, 0, 0), 3);
        c.due("18 a long's lowest bits count", x.results(6, 0, 0, 1), Integer.MIN_VALUE - 1L);
    }

    private static void measure() {
        AdvertCouncil x = new AdvertCouncil();
        c.due("20 what", x.measure(2, 50), -6);
        c.due("20 what", x.measure(-1, 50), -6);
        c.due("20 n", x.measure(0, 0), -6);
        c.due("20 n", x.measure(1, 101), -6);
        c.due("20 share", x.measure(0, 1), 50);
        c.due("20 share", x.measure(0, 100), 1);
        c.due("20 tenth", x.measure(1, 100), 10);
        c.due("20 tenth", x.measure(1, 1), 100);
        c.due("20 apart", x.measure(0, 7), 100);
    }

    /** Phrases of CLAIM, NUMBER 10, UPTO 10, LIKENESS, FEELING, all on subject 1, on one word. */
    private static AdvertCouncil claimsOfAllKinds() {
        AdvertCouncil x = new AdvertCouncil();
        Check.phrase(x, 0, 1, 10, 0, 1);
        Check.phrase(x, 1, 1, 10, 0, 1);
        Check.phrase(x, 5, 1, 10, 0, 1);
        Check.phrase(x, 2, 1, 12 * 5 + 3, 0, 1);
        Check.phrase(x, 4, 1, 10, 0, 1);
        Check.advert(x, 2, 0, 1);
        return x;
    }

    private static void borneOut(AdvertCouncil x, String when, int... due) {
        for (int i = 0; i < due.length; i++) {
            c.due("16 borne out, " + when + ", claim " + i, x.claim(0, i, 6), due[i]);
        }
    }

    private static void numbers() {
        AdvertCouncil x = claimsOfAllKinds();
        borneOut(x, "no proof", 0, 0, 0, 0, 1);
        Check.proof(x, 2, 2, 10);
        Check.proof(x, 1, 1, 10);
        borneOut(x, "proofs of others", 0, 0, 0, 0, 1);
        Check.proof(x, 2, 1);
        borneOut(x, "a proof of none", 1, 0, 0, 0, 1);
        Check.proof(x, 2, 1, 9);
        borneOut(x, "one less", 1, 0, 0, 0, 1);
        Check.proof(x, 2, 1, 10);
        borneOut(x, "half", 1, 1, 1, 0, 1);
        Check.proof(x, 2, 1, 1, 1, 1, 1, 1, 1, 1, 1);
        borneOut(x, "a tenth", 1, 0, 1, 0, 1);
        Check.proof(x, 2, 1, 1);
        borneOut(x, "less than a tenth", 1, 0, 0, 0, 1);
        x.measure(0, 9);
        borneOut(x, "a lower share", 1, 1, 0, 0, 1);
        x.measure(1, 9);
        borneOut(x, "a lower tenth", 1, 1, 1, 0, 1);
    }

    private static void likeness() {
        AdvertCouncil x = claimsOfAllKinds();
        Check.proof(x, 2, 1, 4, 5);
        borneOut(x, "the other has none", 1, 0, 0, 0);
        Check.proof(x, 3, 1);
        borneOut(x, "the other gave no results", 1, 0, 0, 0);
        Check.proof(x, 3, 1, 4, 4, 5);
        borneOut(x, "a mean a sixth greater", 1, 0, 0, 1);
        Check.proof(x, 3, 1, 5);
        borneOut(x, "the same mean", 1, 0, 0, 0);
        Check.proof(x, 2, 1, Integer.MAX_VALUE);
        borneOut(x, "far greater", 1, 0, 1, 1);
        Check.proof(x, 2, 1, -Integer.MAX_VALUE, -Integer.MAX_VALUE);
        borneOut(x, "far less", 1, 0, 1, 0);
        Check.proof(x, 3, 2, -Integer.MAX_VALUE);
        borneOut(x, "another subject", 1, 0, 1, 0);
    }

    private static void knownDays() {
        AdvertCouncil x = claimsOfAllKinds();
        Check.rule(x, 0, "b:p=1");
        x.days(5);
        Check.proof(x, 2, 1, 20);
        x.days(5);
        Check.proof(x, 3, 1, 19);
        int[][] due = {{4, -1, -1, -1, -1, 0}, {5, 0, 0, 0, -1, 0}, {9, 0, 0, 0, -1, 0}, {10, 0, 0, 0, 0, 0}};
        for (int[] d : due) {
            for (int i = 0; i < 5; i++) {
                c.due("24 claim " + i + " known " + d[0], x.bars(0, i, 0, d[0]), d[1 + i]);
            }
        }
    }
}
