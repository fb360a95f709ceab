/**
 * A council in the midst of things, made by the same calls each time: so two of them can be put side by side,
 * and whatever a refused call might have changed is there to be changed.
 */
final class House {
    static final int BYTES = 0;
    static final int SHORTS = 1;
    static final int INTS = 2;
    static final int LONGS = 3;
    static final int CLAIM = 4;
    static final int EMPTY = 5;
    static final int SIXTY = 6;
    static final int RULE = 7;

    static final int NOW = 100;

    private House() {
    }

    /** Some 150 calls. */
    static AdvertCouncil made() {
        AdvertCouncil x = new AdvertCouncil();
        tellPhrases(x);
        tellAdverts(x);
        Check.proof(x, 1, 2, 50, 30, 45);
        Check.proof(x, 2, 2, 20);
        Check.rule(x, 0, "b:k=1&n>39");
        Check.rule(x, 0, "b:s=1");
        Check.rule(x, 0, "b:k");
        x.measure(0, 60);
        x.measure(1, 20);
        rule(x);
        x.stop(0, 0, false);
        x.stop(1, 0, false);
        x.stop(1, 0, true);
        x.strike(1);
        x.unphrase(6);
        x.least(0);
        fillShelves(x);
        return x;
    }

    /** As many of each as there may be; some 290 calls. */
    static AdvertCouncil full() {
        AdvertCouncil x = made();
        x.row(RULE, 0, 1);
        x.set(RULE, 0, 77);
        fill(x);
        Check.text(x, RULE, "b:0=1");
        for (int n = x.status(3); n < 16; n++) {
            x.rule(RULE, 0);
        }
        return x;
    }

    private static void fill(AdvertCouncil x) {
        for (int n = x.status(0); n < 24; n++) {
            x.advert(11, 5, RULE);
        }
        for (int n = x.status(1); n < 20; n++) {
            x.phrase(RULE, 3, 15000, 0);
        }
        for (int n = x.status(2); n < 40; n++) {
            x.proof(11, 15, RULE);
        }
        for (int n = x.status(4); n < 9; n++) {
            x.seat(0);
        }
        for (int n = x.status(5); n < 40; n++) {
            x.decide(0, 0, 7, 0);
        }
    }

    private static void tellPhrases(AdvertCouncil x) {
        Check.phrase(x, 1, 2, 40, 0, 1);
        Check.phrase(x, 0, 1, 7, 0, 2);
        Check.phrase(x, 3, 2, 0, 0, 9);
        Check.phrase(x, 5, 3, 60, 0, 2, 1);
        Check.phrase(x, 2, 2, 14, 0, 1);
        Check.phrase(x, 4, 4, 0, 0, 3);
        Check.phrase(x, 0, 5, 0, 0, 1);
    }

    /** The third has more words than a least change may have. */
    private static void tellAdverts(AdvertCouncil x) {
        Check.advert(x, 1, 2, 1, 2, 1, 3);
        Check.advert(x, 2, 2, 1, 2);
        x.row(7, 2, 13);
        x.advert(1, 3, 7);
        Check.print(x, 0, 8, 7, 9);
        x.saw(0, 30, 60);
    }

    /** Rulings: 0 whose days are over, 1 bound by it, 2 appealed but not upheld, 3 undone, 4 void. */
    private static void rule(AdvertCouncil x) {
        for (int n = 0; n < 5; n++) {
            x.seat(0);
        }
        x.seat(1 << 3);
        x.days(78);
        x.decide(0, 0, 7, 8);
        x.days(22);
        x.decide(1, 0, 7, 0);
        x.decide(0, 1, 7, 0);
        x.decide(0, 3, 7, 0);
        x.appeal(2, false);
        x.appeal(3, true);
        x.decide(1, 3, 19, 0);
        x.kin(4, 2);
    }

    private static void fillShelves(AdvertCouncil x) {
        Check.row(x, BYTES, 0, 1, 2, 3);
        Check.row(x, SHORTS, 1, 4, 5);
        Check.row(x, INTS, 2, 6, 7, 8);
        Check.row(x, LONGS, 3, 1L << 40, -9);
        x.keep(CLAIM, 0, 0);
        x.row(SIXTY, 2, 60);
        x.set(SIXTY, 59, 60);
        Check.text(x, RULE, "b:k=1");
    }
}
