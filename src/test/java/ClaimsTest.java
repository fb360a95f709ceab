/** Promises 13 to 17. */
public final class ClaimsTest {
    private static final Check c = new Check("ClaimsTest");

    public static void main(String[] args) {
        phrase();
        unphrase();
        order();
        days();
        takenBack();
        claim();
        keep();
        c.end();
    }

    private static void phrase() {
        AdvertCouncil x = new AdvertCouncil();
        Check.phrase(x, 0, 1, 1, 0, 1);
        Check.advert(x, 0, 0, 1);
        x.keep(1, 0, 0);
        x.row(0, 0, 6);
        x.row(3, 0, 7);
        x.row(4, 0, 0);
        c.due("13 nobody first", x.phrase(8, 0, -1, 0), -1);
        c.due("13 nobody first", x.phrase(-1, 0, -1, 0), -1);
        c.due("13 no kind", x.phrase(1, 6, -1, 0), -1);
        c.due("13 no kind", x.phrase(2, -1, -1, 0), -1);
        c.due("13 a claim", x.phrase(1, 0, -1, 0), -2);
        c.due("13 nothing", x.phrase(2, 0, -1, 0), -3);
        c.due("13 seven words", x.phrase(3, 0, 0, 0), -6);
        c.due("13 no words", x.phrase(4, 0, 0, 0), -6);
        c.due("13 subject", x.phrase(0, 0, 16000, 0), -6);
        c.due("13 below", x.phrase(0, 0, -1, 0), -6);
        c.due("13 below", x.phrase(0, 0, -1000, 0), -6);
        c.due("13 day", x.phrase(0, 0, 0, -1), -6);
        c.due("13 day", x.phrase(0, 0, 0, 9001), -6);
        c.due("13", x.phrase(0, 5, 15999, 9000), 1);
        for (int n = 2; n < 20; n++) {
            c.due("13 up to 20", x.phrase(0, 3, 0, 0), n);
        }
        c.due("13 room", x.phrase(0, 3, 0, 0), -7);
        c.due("13 wrong ahead of room", x.phrase(4, 3, 0, 0), -6);
        c.due("13 how many", x.status(1), 20);
    }

    private static void unphrase() {
        AdvertCouncil x = new AdvertCouncil();
        x.days(4);
        Check.phrase(x, 0, 1, 1, 0, 1);
        Check.advert(x, 0, 0, 1);
        c.due("14 nobody", x.unphrase(1), -1);
        c.due("14 nobody", x.unphrase(-1), -1);
        x.days(1);
        c.due("14", x.unphrase(0), 1);
        c.due("14 at once", x.claims(0, 5, 5), 0);
        c.due("14 day before", x.claims(0, 4, 5), 1);
        c.due("14 not known the day before", x.claims(0, 5, 4), 1);
        c.due("14 not told", x.claims(0, 5, 3), 0);
        x.days(1);
        c.due("14 it was", x.unphrase(0), -6);
        c.due("14 the first day counts", x.claims(0, 5, 9), 0);
    }

    private static void order() {
        AdvertCouncil x = new AdvertCouncil();
        Check.phrase(x, 0, 1, 10, 0, 1, 1);
        Check.phrase(x, 1, 2, 20, 0, 1);
        Check.phrase(x, 3, 2, 20, 0, 1);
        Check.phrase(x, 4, 3, 30, 0, 1, 1, 1);
        Check.advert(x, 0, 0, 1, 1, 1, 2);
        int[][] due = {{0, 0}, {1, 0}, {3, 0}, {0, 1}, {1, 1}, {1, 2}};
        c.due("15 how many", x.claims(0, 0, 0), due.length);
        for (int i = 0; i < due.length; i++) {
            c.due("16 phrase of " + i, x.claim(0, i, 4), due[i][0]);
            c.due("16 place of " + i, x.claim(0, i, 3), due[i][1]);
        }
        Check.advert(x, 0, 0, 1, 2, 1, 1);
        c.due("15 words up to the end", x.claims(1, 0, 0), 4);
        Check.advert(x, 0, 0, 1, 1, 1, 1, 1, 1, 1, 1, 1, 1);
        c.due("15 the first 24", x.claims(2, 0, 0), 24);
        c.due("16 the last", x.claim(2, 23, 3), 7);
        c.due("16 the last", x.claim(2, 23, 4), 3);
        c.due("16 beyond", x.claim(2, 24, 4), -1);
        Check.advert(x, 0, 0, 1, 1, 1, 1, 1, 1, 1, 1, 1);
        c.due("15 fewer than 24 would be 24", x.claims(3, 0, 0), 24);
        Check.advert(x, 0, 0, 1, 1, 1, 1, 1, 1, 1, 1);
        c.due("15 twenty one", x.claims(4, 0, 0), 21);
    }

    private static void days() {
        AdvertCouncil x = new AdvertCouncil();
        x.days(10);
        Check.phrase(x, 0, 1, 1, 0, 1);
        Check.phrase(x, 0, 2, 1, 20, 1);
        Check.advert(x, 0, 0, 1);
        int[][] due = {
            {0, 10, 1}, {0, 9, 0}, {19, 10, 1}, {20, 10, 2}, {20, 9, 0}, {9000, 9000, 2}, {0, 0, 0},
        };
        for (int[] d : due) {
            c.due("15 claims(0, " + d[0] + ", " + d[1] + ")", x.claims(0, d[0], d[1]), d[2]);
        }
        c.due("15 no such one", x.claims(1, 10, 10), -1);
        c.due("15 no such one", x.claims(-1, 10, 10), -1);
        c.due("15 no such a", x.claims(0, -1, 10), -1);
        c.due("15 no such k", x.claims(0, 10, -1), -1);
        c.due("16 as of now", x.claim(0, 1, 1), -1);
        x.days(10);
        c.due("16 as of now", x.claim(0, 1, 1), 2);
        c.due("15 nothing is refused", x.status(11), 0);
    }

    private static void takenBack() {
        AdvertCouncil x = new AdvertCouncil();
        Check.phrase(x, 1, 1, 5, 0, 1);
        Check.phrase(x, 1, 2, 5, 0, 2);
        Check.phrase(x, 3, 1, 0, 0, 8, 9);
        Check.advert(x, 0, 0, 1, 2, 8, 9);
        c.due("16 no print", x.claim(0, 0, 5), 0);
        c.due("15 no claim of LEFT", x.claims(0, 0, 0), 2);
        Check.print(x, 0, 1, 8);
        c.due("16 half of it", x.claim(0, 0, 5), 0);
        Check.print(x, 0, 1, 9, 8);
        c.due("16 not in order", x.claim(0, 0, 5), 0);
        Check.print(x, 0, 1, 8, 7, 9);
        c.due("16 not one behind the other", x.claim(0, 0, 5), 0);
        Check.print(x, 0, 1, 8, 8, 9);
        c.due("16 at the end", x.claim(0, 0, 5), 1);
        c.due("16 another subject", x.claim(0, 1, 5), 0);
        Check.phrase(x, 3, 2, 0, 5, 8);
        c.due("16 not in force yet", x.claim(0, 1, 5), 0);
        x.days(5);
        c.due("16 in force", x.claim(0, 1, 5), 1);
        x.unphrase(2);
        c.due("16 struck", x.claim(0, 0, 5), 0);
        Check.rule(x, 0, "b:l=1");
        c.due("24 as of then", x.bars(0, 0, 4, 5), 0);
        c.due("24 as of now", x.bars(0, 0, 5, 5), -1);
        takenBackByTheFirst();
    }

    /** AS OF and KNOWN are other days, and it is the first phrase that takes back. */
    private static void takenBackByTheFirst() {
        AdvertCouncil x = new AdvertCouncil();
        Check.phrase(x, 3, 1, 0, 20, 8);
        Check.phrase(x, 1, 1, 5, 0, 1);
        Check.advert(x, 0, 0, 1);
        Check.print(x, 0, 1, 8);
        Check.rule(x, 0, "b:l=1");
        c.due("24 from day 20 on", x.bars(0, 0, 20, 0), 0);
        c.due("24 not ahead of it", x.bars(0, 0, 19, 20), -1);
        x.days(20);
        c.due("16 by the first phrase", x.claim(0, 0, 5), 1);
    }

    private static void claim() {
        AdvertCouncil x = new AdvertCouncil();
        Check.phrase(x, 0, 9, 9, 0, 6);
        Check.phrase(x, 5, 12, 345, 0, 1, 2);
        Check.advert(x, 1, 0, 5, 5, 1, 2);
        int[] due = {5, 12, 345, 2, 1, 0, 0, 0};
        for (int what = 0; what < 8; what++) {
            c.due("16 claim(0, 0, " + what + ")", x.claim(0, 0, what), due[what]);
        }
        c.due("16 another what", x.claim(0, 0, 8), -1);
        c.due("16 another what", x.claim(0, 0, -1), -1);
        c.due("16 no claim", x.claim(0, 1, 0), -1);
        c.due("16 no claim", x.claim(0, -1, 0), -1);
        c.due("16 no advert", x.claim(1, 0, 0), -1);
        c.due("16 no advert", x.claim(-1, 0, 0), -1);
        Check.proof(x, 1, 12, 345);
        c.due("16 borne out", x.claim(0, 0, 6), 1);
        for (int n = 0; n < 3; n++) {
            x.seat(0);
        }
        c.due("26", x.decide(0, 0, 7, 0), 0);
        c.due("16 said again", x.claim(0, 0, 7), 1);
        x.appeal(0, true);
        x.days(30);
        Check.advert(x, 2, 0, 1, 2);
        x.decide(1, 0, 7, 0);
        c.due("16 said again by a later ruling", x.claim(1, 0, 7), 1);
    }

    private static void keep() {
        AdvertCouncil x = new AdvertCouncil();
        Check.phrase(x, 4, 9, 9, 0, 6);
        Check.phrase(x, 5, 12, 345, 0, 1, 2);
        Check.advert(x, 1, 0, 6, 1, 2);
        c.due("17", x.keep(0, 0, 1), 5);
        c.due("17 what it holds", x.holds(0), 1);
        c.due("17 no shelf", x.keep(8, 0, 0), -1);
        c.due("17 no shelf", x.keep(-1, 0, 0), -1);
        c.due("17 no shelf, none", x.keep(8, -1, 0), -1);
        c.due("17 no advert", x.keep(0, 1, 0), -1);
        c.due("17 no advert", x.keep(0, -2, 0), -1);
        c.due("17 no claim", x.keep(0, 0, 2), -1);
        c.due("17 no claim", x.keep(0, 0, -1), -1);
        c.due("17 nothing changed", x.holds(0), 1);
        c.due("17 refused", x.status(11), 7);
        c.due("17 none", x.keep(0, -1, 99), -1);
        c.due("17 none is no refusal", x.status(11), 7);
        c.due("17 nothing there", x.holds(0), -1);
        c.due("17 another shelf", x.keep(7, 0, 0), 4);
        x.unphrase(0);
        c.due("17 as it was read then", x.says(7, 0), 9);
        c.due("17 as read now", x.keep(6, 0, 0), 5);
    }
}
