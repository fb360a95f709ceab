/** Promises 35 to 37, and 41. */
public final class LeastTest {
    private static final Check c = new Check("LeastTest");

    public static void main(String[] args) {
        least();
        leastOfSeveral();
        leastLater();
        leastByAdjacency();
        leastOfTwentyFour();
        leastOfMany();
        judge();
        status();
        c.end();
    }

    private static void leastIs(AdvertCouncil x, String what, int advert, int count, int set) {
        c.due("35 " + what, x.least(advert), count);
        c.due("36 " + what, x.leastSet(), set);
    }

    private static void least() {
        AdvertCouncil x = new AdvertCouncil();
        c.due("36 ahead of any", x.leastSet(), 0);
        c.due("35 nobody", x.least(0), -1);
        Check.phrase(x, 0, 1, 1, 0, 1, 2);
        Check.advert(x, 0, 0, 1, 2, 3, 1, 2);
        leastIs(x, "no rules", 0, 0, 0);
        Check.rule(x, 0, "b:k=0");
        leastIs(x, "one of each pair, the first ones", 0, 2, 1 | 8);
        c.due("35 nobody", x.least(1), -1);
        c.due("35 nobody", x.least(-1), -1);
        Check.advert(x, 0, 0, 3, 3, 3, 3, 3, 3, 3, 3, 3, 3, 3, 3, 3);
        c.due("35 more than 12", x.least(1), -7);
        c.due("36 that was not refused", x.leastSet(), 9);
        Check.advert(x, 0, 0);
        leastIs(x, "no words", 2, 0, 0);
        x.strike(0);
        leastIs(x, "struck", 0, 0, 0);
        c.due("35 refused", x.status(17), 1);
    }

    private static void leastOfSeveral() {
        AdvertCouncil x = new AdvertCouncil();
        Check.phrase(x, 0, 1, 1, 0, 5, 6, 7);
        Check.rule(x, 0, "b:k=0");
        Check.advert(x, 0, 0, 9, 5, 6, 7);
        leastIs(x, "the least as bits", 0, 1, 2);
        Check.advert(x, 0, 0, 5, 6, 7, 5, 6, 7, 8, 5, 6, 7);
        leastIs(x, "three", 1, 3, 1 | 8 | 128);
        x.unphrase(0);
        leastIs(x, "as read now", 1, 0, 0);
        Check.phrase(x, 0, 1, 1, 5, 5);
        leastIs(x, "not in force yet", 1, 0, 0);
        x.days(5);
        leastIs(x, "in force", 1, 3, 1 | 8 | 128);
        x.days(5);
        c.due("37 in force", Check.judge(x, 1, 0, 3), 0);
        c.due("37 in force", Check.judge(x, 1, 0, 3, 7), 1);
    }

    /** All is told later than day 0, in force from then on. */
    private static void leastLater() {
        AdvertCouncil x = new AdvertCouncil();
        x.days(7);
        Check.phrase(x, 0, 1, 1, 7, 1);
        Check.phrase(x, 3, 1, 1, 7, 9);
        Check.advert(x, 0, 0, 1, 2);
        Check.rule(x, 7, "b:k=0&p=0&l=0");
        leastIs(x, "later", 0, 1, 1);
        c.due("37 later", Check.judge(x, 0), 0);
        c.due("38 later", x.beside(1), 1);
        Check.proof(x, 0, 1);
        leastIs(x, "borne out now", 0, 0, 0);
        c.due("37 borne out now", Check.judge(x, 0), 1);
        c.due("38 borne out now", x.beside(1), 0);
    }

    private static void leastByAdjacency() {
        AdvertCouncil x = new AdvertCouncil();
        Check.phrase(x, 0, 1, 1, 0, 1, 2);
        Check.phrase(x, 0, 1, 1, 0, 3);
        Check.rule(x, 0, "b:k=0");
        Check.advert(x, 0, 0, 1, 3, 2);
        leastIs(x, "what is behind moves up", 0, 2, 1 | 2);
        Check.advert(x, 0, 0, 1, 3, 3, 2, 2);
        leastIs(x, "what is behind moves up", 1, 3, 1 | 2 | 4);
        AdvertCouncil kept = new AdvertCouncil();
        Check.phrase(kept, 1, 1, 40, 0, 1);
        Check.phrase(kept, 1, 1, 60, 0, 1, 2);
        Check.phrase(kept, 3, 1, 0, 0, 9);
        Check.rule(kept, 0, "b:n>50&l=0");
        Check.advert(kept, 0, 0, 1, 2, 1);
        leastIs(kept, "the barred one alone", 0, 1, 1);
        Check.print(kept, 0, 5, 9);
        leastIs(kept, "taken back", 0, 0, 0);
    }

    /** Twelve words read by three phrases make 36 claims: what is barred behind the 24th doesn't count. */
    private static void leastOfTwentyFour() {
        AdvertCouncil x = new AdvertCouncil();
        Check.phrase(x, 1, 1, 1, 0, 1);
        Check.phrase(x, 1, 1, 2, 0, 1);
        Check.phrase(x, 1, 1, 3, 0, 1);
        Check.phrase(x, 0, 1, 3, 0, 2);
        Check.rule(x, 0, "b:k=0");
        Check.advert(x, 0, 0, 1, 1, 1, 1, 1, 1, 1, 1, 2, 2, 2, 2);
        leastIs(x, "behind the 24th", 0, 0, 0);
        Check.advert(x, 0, 0, 1, 1, 1, 1, 1, 1, 1, 2, 2, 2, 2, 1);
        leastIs(x, "three claims ahead of the 24th, the fourth doesn't count", 1, 4, 128 | 256 | 512 | 1024);
        Check.advert(x, 0, 0, 2, 1, 1, 1, 1, 1, 1, 1, 1, 2);
        leastIs(x, "a struck one lets others count", 2, 1, 1);
        Check.advert(x, 0, 0, 2, 1, 1, 1, 1, 1, 1, 1, 2, 2);
        leastIs(x, "a struck one lets others count", 3, 3, 1 | 256 | 512);
        c.due("37", Check.judge(x, 0), 1);
        c.due("37 an ahead one struck", Check.judge(x, 0, 0), 0);
    }

    private static void leastOfMany() {
        AdvertCouncil x = new AdvertCouncil();
        Check.phrase(x, 0, 1, 1, 0, 1);
        Check.rule(x, 0, "b:0=0");
        Check.advert(x, 0, 0, 1, 1, 1, 1, 1, 1, 1, 1, 1, 1, 1, 1);
        leastIs(x, "all twelve", 0, 12, 4095);
        Check.advert(x, 0, 0, 1, 1, 1, 1, 1, 1, 1, 1, 1, 1, 1, 2);
        leastIs(x, "eleven", 1, 11, 2047);
        Check.advert(x, 0, 0, 2, 1, 2, 1, 2, 1, 2, 1, 2, 1, 2, 1);
        leastIs(x, "every other", 2, 6, 0xAAA);
    }

    private static void judge() {
        AdvertCouncil x = new AdvertCouncil();
        Check.phrase(x, 0, 1, 1, 0, 1, 2);
        Check.phrase(x, 4, 1, 1, 0, 3);
        Check.rule(x, 0, "b:k=0");
        Check.advert(x, 0, 0, 1, 3, 2, 4, 1, 2);
        c.due("37 nobody", x.judge(1, 9), -1);
        c.due("37 nobody", x.judge(-1, 0), -1);
        c.due("37 no shelf", x.judge(0, 8), -1);
        c.due("37 no shelf", x.judge(0, -1), -1);
        c.due("37 nothing", x.judge(0, 1), -3);
        x.keep(1, 0, 0);
        c.due("37 a claim", x.judge(0, 1), -2);
        c.due("37 a place of none", Check.judge(x, 0, 6), -6);
        c.due("37 a place of none", Check.judge(x, 0, 4, -1), -6);
        c.due("37 as it is", Check.judge(x, 0), 0);
        c.due("37 without one", Check.judge(x, 0, 5), 1);
        c.due("37 told twice", Check.judge(x, 0, 5, 5), 1);
        c.due("37 in any order", Check.judge(x, 0, 5, 1, 0), 1);
        c.due("37 what is behind moves up", Check.judge(x, 0, 5, 1), 0);
        c.due("37 all", Check.judge(x, 0, 0, 1, 2, 3, 4, 5), 1);
        Check.row(x, 2, 3, (1L << 40) + 4);
        c.due("37 a long's lowest bits", x.judge(0, 2), 1);
        c.due("36 no least yet", x.leastSet(), 0);
        Check.advert(x, 0, 0, 4, 4, 4, 4, 4, 4, 4, 4, 4, 4, 4, 4, 4, 4, 4, 4, 4, 4, 1, 2);
        c.due("37 of twenty", Check.judge(x, 1), 0);
        c.due("37 of twenty", Check.judge(x, 1, 19), 1);
        c.due("37 of twenty", Check.judge(x, 1, 20), -6);
        x.strike(0);
        c.due("37 as read now", Check.judge(x, 0), 1);
    }

    private static void status() {
        AdvertCouncil x = new AdvertCouncil();
        Check.phrase(x, 1, 1, 100, 0, 1);
        Check.phrase(x, 1, 1, 100, 0, 2);
        for (int n = 0; n < 4; n++) {
            x.seat(0);
        }
        Check.advert(x, 0, 0, 1);
        Check.advert(x, 1, 0, 1);
        Check.advert(x, 2, 0, 1);
        for (int n = 0; n < 5; n++) {
            Check.proof(x, 0, 0);
        }
        for (int n = 0; n < 6; n++) {
            Check.rule(x, 0, "b:k=0");
        }
        x.days(9);
        x.decide(0, 0, 7, 0);
        x.decide(0, 0, 0, 7);
        x.decide(1, 0, 7, 0);
        x.days(50);
        x.decide(0, 0, 15, 0);
        x.decide(0, 0, 14, 0);
        x.decide(0, 0, 0, 15);
        x.decide(0, 0, 1, 14);
        x.appeal(5, true);
        x.kin(0, 1);
        int[] due = {3, 2, 5, 6, 4, 7, 5, 3, 1, 1, 59, 0, 0, 0, 0, 0, 0, 0};
        for (int what = 0; what < due.length; what++) {
            c.due("41 status(" + what + ")", x.status(what), due[what]);
        }
        for (int n = 0; n < 1; n++) {
            x.seat(-1);
        }
        x.keep(0, 0, 0);
        for (int n = 0; n < 2; n++) {
            x.set(0, 0, 0);
        }
        for (int n = 0; n < 3; n++) {
            x.set(1, 0, 0);
        }
        for (int n = 0; n < 4; n++) {
            x.row(0, 0, -1);
        }
        x.row(2, 0, 1);
        for (int n = 0; n < 5; n++) {
            x.set(2, 1, 0);
        }
        for (int n = 0; n < 6; n++) {
            x.days(0);
        }
        for (int n = 0; n < 7; n++) {
            x.row(0, 0, 61);
        }
        for (int n = 1; n <= 7; n++) {
            c.due("41 refused -" + n, x.status(10 + n), n);
        }
        c.due("41 another what", x.status(18), -1);
        c.due("41 another what", x.status(-1), -1);
        c.due("41 another what", x.status(Integer.MIN_VALUE), -1);
    }
}
