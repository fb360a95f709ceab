/** Promises 9 to 12, 39, 40. */
public final class AdvertsTest {
    private static final Check c = new Check("AdvertsTest");

    public static void main(String[] args) {
        advert();
        print();
        saw();
        about();
        stop();
        c.end();
    }

    private static void claimOn(AdvertCouncil x, int s) {
        Check.phrase(x, 0, 1, 1, 0, 1);
        Check.advert(x, 0, 0, 1);
        c.due("keep", x.keep(s, x.status(0) - 1, 0), 0);
    }

    private static void advert() {
        AdvertCouncil x = new AdvertCouncil();
        claimOn(x, 1);
        c.due("9 nobody first", x.advert(12, 6, 1), -1);
        c.due("9 nobody first", x.advert(-1, 6, 1), -1);
        c.due("9 no shelf", x.advert(0, 6, 8), -1);
        c.due("9 no shelf", x.advert(0, 6, -1), -1);
        c.due("9 a claim", x.advert(0, 6, 1), -2);
        c.due("9 nothing", x.advert(0, 6, 2), -3);
        x.row(0, 3, 21);
        c.due("9 more than 20", x.advert(0, 0, 0), -6);
        x.row(0, 3, 20);
        x.set(0, 19, (5L << 32) + 1);
        c.due("9 medium", x.advert(0, 6, 0), -6);
        c.due("9 medium", x.advert(0, -1, 0), -6);
        c.due("9 twenty", x.advert(11, 5, 0), 1);
        c.due("9 a long's lowest bits", x.claims(1, 0, 0), 1);
        c.due("9 its place", x.claim(1, 0, 3), 19);
        x.set(0, 19, 2);
        c.due("9 as they were when told", x.claims(1, 0, 0), 1);
        x.row(0, 3, 0);
        c.due("9 none", x.advert(0, 0, 0), 2);
        for (int n = 3; n < 24; n++) {
            c.due("9 up to 24", x.advert(0, 0, 0), n);
        }
        c.due("9 room", x.advert(0, 0, 0), -7);
        x.row(0, 3, 21);
        c.due("9 wrong ahead of room", x.advert(0, 0, 0), -6);
        c.due("9 how many", x.status(0), 24);
        c.due("9 refused", x.status(17), 1);
    }

    private static void print() {
        AdvertCouncil x = new AdvertCouncil();
        claimOn(x, 1);
        Check.phrase(x, 3, 1, 0, 0, 8, 9);
        Check.row(x, 0, 0, 7, 8, 9);
        c.due("10 nobody first", x.print(1, 1, 21), -1);
        c.due("10 nobody", x.print(-1, 0, 0), -1);
        c.due("10 no shelf", x.print(0, 8, 0), -1);
        c.due("10 no shelf", x.print(0, -1, 0), -1);
        c.due("10 a claim", x.print(0, 1, 21), -2);
        c.due("10 nothing", x.print(0, 2, 21), -3);
        c.due("10 size", x.print(0, 0, 21), -6);
        c.due("10 size below", x.print(0, 0, -1), -6);
        x.row(3, 0, 13);
        c.due("10 more than 12", x.print(0, 3, 0), -6);
        c.due("10 nothing came", x.about(0, 3), 0);
        c.due("10", x.print(0, 0, 20), 0);
        c.due("10 taken back by it", x.claim(0, 0, 5), 1);
        x.set(0, 2, 1);
        c.due("10 as it was then", x.claim(0, 0, 5), 1);
        c.due("10 size before", x.print(0, 0, 3), 20);
        c.due("10 no longer", x.claim(0, 0, 5), 0);
        x.row(3, 0, 12);
        c.due("10 twelve", x.print(0, 3, 0), 3);
        c.due("10 how many", x.about(0, 3), 12);
        c.due("10 size 0", x.about(0, 4), 0);
    }

    private static void saw() {
        AdvertCouncil x = new AdvertCouncil();
        x.row(0, 0, 0);
        x.advert(0, 0, 0);
        c.due("11 nobody", x.saw(1, -1, 0), -1);
        c.due("11 nobody", x.saw(-1, 0, 0), -1);
        c.due("11 wrong", x.saw(0, -1, 0), -6);
        c.due("11 wrong", x.saw(0, 0, -1), -6);
        c.due("11 wrong", x.saw(0, 10000, 0), -6);
        c.due("11 wrong", x.saw(0, 0, 10000), -6);
        c.due("11 none", x.saw(0, 0, 0), 0);
        c.due("11", x.saw(0, 5, 7), 12);
        c.due("11 more", x.saw(0, 1, 9992), 10005);
        c.due("11 others in all", x.saw(0, 1, 1), -7);
        c.due("11 nothing came", x.about(0, 5), 6);
        c.due("11 children to the brim", x.saw(0, 9993, 0), 19998);
        c.due("11 children in all", x.saw(0, 1, 0), -7);
        c.due("11 wrong ahead of room", x.saw(0, 1, -1), -6);
    }

    private static void about() {
        AdvertCouncil x = new AdvertCouncil();
        x.days(17);
        x.row(0, 0, 4);
        x.row(1, 0, 2);
        x.advert(3, 4, 0);
        x.days(1);
        x.print(0, 1, 6);
        x.saw(0, 8, 9);
        int[] due = {3, 4, 4, 2, 6, 8, 9, 17};
        for (int what = 0; what < 8; what++) {
            c.due("12 about(0, " + what + ")", x.about(0, what), due[what]);
        }
        c.due("12 another what", x.about(0, 8), -1);
        c.due("12 another what", x.about(0, -1), -1);
        c.due("12 no such one", x.about(1, 0), -1);
        c.due("12 no such one", x.about(-1, 0), -1);
        c.due("12 nothing is refused", x.status(11), 0);
    }

    private static void stop() {
        AdvertCouncil x = new AdvertCouncil();
        x.row(0, 0, 0);
        x.advert(0, 0, 0);
        x.advert(0, 0, 0);
        c.due("39 no advert", x.stop(0, 2, false), -1);
        c.due("39 no advert", x.stop(0, -1, false), -1);
        c.due("39 no paper", x.stop(8, 0, true), -1);
        c.due("39 no paper", x.stop(-1, 0, true), -1);
        c.due("39 did, not asked", x.stop(7, 1, true), -6);
        c.due("40 not asked", x.stopped(7, 1, false), -1);
        c.due("39 asked on day 0", x.stop(7, 1, false), 1);
        c.due("40 asked on day 0", x.stopped(7, 1, false), 0);
        c.due("40 not done", x.stopped(7, 1, true), -1);
        c.due("39 asked again", x.stop(7, 1, false), -6);
        c.due("39 the first paper", x.stop(0, 0, true), -6);
        c.due("40 the first paper", x.stopped(0, 0, false), -1);
        c.due("39 the first paper", x.stop(0, 0, false), 1);
        c.due("40 the first paper", x.stopped(0, 0, true), -1);
        c.due("40 the first paper", x.stopped(0, 0, false), 0);
        x.days(3);
        c.due("39 did", x.stop(7, 1, true), 2);
        x.days(4);
        c.due("39 did again", x.stop(7, 1, true), -6);
        c.due("39 asked when done", x.stop(7, 1, false), -6);
        c.due("40 asked", x.stopped(7, 1, false), 0);
        c.due("40 did", x.stopped(7, 1, true), 3);
        c.due("40 another advert", x.stopped(7, 0, false), -1);
        c.due("40 another paper", x.stopped(6, 1, true), -1);
        c.due("40 no paper", x.stopped(8, 1, true), -1);
        c.due("40 no paper", x.stopped(-1, 1, true), -1);
        c.due("40 no advert", x.stopped(7, 2, true), -1);
        c.due("40 no advert", x.stopped(7, -1, false), -1);
        c.due("39 refused", x.status(11), 4);
        c.due("39 refused", x.status(16), 5);
    }
}
