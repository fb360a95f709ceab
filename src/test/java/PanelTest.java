/** Promises 25 to 34. */
public final class PanelTest {
    private static final Check c = new Check("PanelTest");

    public static void main(String[] args) {
        seat();
        decide();
        decideMany();
        ruling();
        kin();
        kinOfSeveral();
        like();
        apart();
        binding();
        clash();
        again();
        appeal();
        appealChain();
        step();
        stepFalls();
        c.end();
    }

    /** Five seats of no kin; phrase n is a NUMBER on subject 1 of the n-th number; all stand on word 1. */
    private static AdvertCouncil panel(int... numbers) {
        AdvertCouncil x = new AdvertCouncil();
        for (int number : numbers) {
            Check.phrase(x, 1, 1, number, 0, 1);
        }
        for (int n = 0; n < 5; n++) {
            x.seat(0);
        }
        return x;
    }

    private static void seat() {
        AdvertCouncil x = new AdvertCouncil();
        c.due("25 a bit of none", x.seat(4096), -1);
        c.due("25 a bit of none", x.seat(-1), -1);
        c.due("25 all", x.seat(4095), 0);
        for (int n = 1; n < 9; n++) {
            c.due("25 up to 9", x.seat(0), n);
        }
        c.due("25 nobody ahead of room", x.seat(4096), -1);
        c.due("25 room", x.seat(0), -7);
        c.due("25 how many", x.status(4), 9);
    }

    private static void decide() {
        AdvertCouncil x = panel(10);
        x.seat(1 << 2);
        Check.advert(x, 2, 3, 1);
        c.due("26 no advert", x.decide(1, 0, 7, 7), -1);
        c.due("26 no advert", x.decide(-1, 0, 7, 7), -1);
        c.due("26 no claim", x.decide(0, 1, 7, 7), -1);
        c.due("26 no claim", x.decide(0, -1, 7, 7), -1);
        c.due("26 no seat", x.decide(0, 0, 64 | 7, 7), -1);
        c.due("26 no seat", x.decide(0, 0, 7, 64 | 7), -1);
        c.due("26 no seat", x.decide(0, 0, -1, 0), -1);
        c.due("26 both ways", x.decide(0, 0, 7, 12), -6);
        c.due("26", x.decide(0, 0, 3, 4), 0);
        c.due("26 both ways", x.decide(0, 0, 15, 24), -6);
        c.due("26 both ways, of kin", x.decide(0, 0, 7 | 32, 32), -6);
        c.due("26 two count", x.decide(0, 0, 3, 0), -6);
        c.due("26 two count beside kin", x.decide(0, 0, 3 | 32, 0), -6);
        c.due("26 nobody voted", x.decide(0, 0, 0, 0), -6);
        c.due("26 three count", x.decide(0, 0, 1, 6), 1);
        c.due("27 it doesn't bar", x.ruling(1, 6), 0);
        c.due("26 as many", x.decide(0, 0, 3, 12), 2);
        c.due("27 as many: it doesn't bar", x.ruling(2, 6), 0);
        c.due("26 kin would tip it", x.decide(0, 0, 3 | 32, 12), 3);
        c.due("27 kin doesn't count", x.ruling(3, 6), 0);
        c.due("27 kin doesn't count", x.ruling(3, 10), 4);
        c.due("26 one more to bar", x.decide(0, 0, 7, 24), 4);
        c.due("27 it bars", x.ruling(4, 6), 1);
        c.due("27 five", x.ruling(4, 10), 5);
        c.due("5 how many", x.status(5), 5);
    }

    private static void decideMany() {
        AdvertCouncil x = panel(10);
        Check.advert(x, 0, 0, 1);
        for (int n = 0; n < 40; n++) {
            c.due("26 up to 40", x.decide(0, 0, 7, 0), n);
        }
        c.due("26 room", x.decide(0, 0, 7, 0), -7);
        c.due("26 wrong ahead of room", x.decide(0, 0, 3, 0), -6);
        c.due("26 nobody ahead of room", x.decide(0, 1, 3, 0), -1);
        c.due("41", x.status(5), 40);
        c.due("41", x.status(7), 40);
        c.due("33 all forty", x.appeal(0, true), 40);
        c.due("41", x.status(9), 40);
    }

    private static void ruling() {
        AdvertCouncil x = panel(10);
        Check.phrase(x, 5, 14, 999, 0, 2);
        Check.advert(x, 11, 5, 1, 2);
        x.days(33);
        c.due("26", x.decide(0, 1, 14, 16), 0);
        c.due("26", x.decide(0, 1, 15, 0), 1);
        int[][] due = {{11, 5, 5, 14, 999, 33, 1, 0, -1, 0, 4}, {11, 5, 5, 14, 999, 33, 1, 1, 0, 0, 4}};
        x.days(1);
        for (int r = 0; r < 2; r++) {
            for (int what = 0; what <= 10; what++) {
                c.due("27 ruling(" + r + ", " + what + ")", x.ruling(r, what), due[r][what]);
            }
        }
        c.due("27 another what", x.ruling(0, 11), -1);
        c.due("27 another what", x.ruling(0, -1), -1);
        c.due("27 no such one", x.ruling(2, 0), -1);
        c.due("27 no such one", x.ruling(-1, 0), -1);
        x.kin(4, 11);
        c.due("27 a vote less now", x.ruling(0, 9), 0);
        c.due("27 how many counted then", x.ruling(0, 10), 4);
        c.due("27 nothing is refused", x.status(11), 0);
    }

    private static void kin() {
        AdvertCouncil x = panel(10);
        Check.advert(x, 2, 0, 1);
        Check.advert(x, 3, 0, 1);
        x.decide(0, 0, 7, 0);
        x.decide(0, 0, 7, 24);
        x.decide(0, 0, 3, 12);
        x.decide(0, 0, 6, 8);
        x.decide(1, 0, 7, 0);
        x.decide(0, 0, 15, 0);
        c.due("28 no seat", x.kin(5, 0), -1);
        c.due("28 no seat", x.kin(-1, 0), -1);
        c.due("28 no firm", x.kin(0, 12), -1);
        c.due("28 no firm", x.kin(0, -1), -1);
        c.due("28 fewer than three, or otherwise", x.kin(0, 2), 2);
        int[] states = {1, 1, 0, 0, 0, 0};
        for (int r = 0; r < states.length; r++) {
            c.due("28 state of " + r, x.ruling(r, 9), states[r]);
        }
        c.due("28 it was", x.kin(0, 2), -6);
        c.due("28 another firm", x.kin(0, 3), 1);
        c.due("28 another firm", x.ruling(4, 9), 1);
        c.due("41 void", x.status(8), 3);
        c.due("41 stand", x.status(6), 3);
        c.due("28 nobody voted so", x.kin(4, 5), 0);
    }

    private static void kinOfSeveral() {
        AdvertCouncil x = panel(10);
        Check.advert(x, 2, 0, 1);
        x.decide(0, 0, 7, 24);
        x.decide(0, 0, 3, 28);
        c.due("28 one to bar less: as many", x.kin(0, 2), 1);
        c.due("28 three against one", x.ruling(1, 9), 0);
        c.due("28 with the other that is kin", x.kin(2, 2), 0);
        c.due("28 two count", x.kin(3, 2), 1);
        c.due("28 void stays void", x.ruling(0, 9), 1);
        c.due("28 void", x.ruling(1, 9), 1);
        c.due("26 two are left", x.decide(0, 0, 31, 0), -6);
        AdvertCouncil turned = panel(10);
        Check.advert(turned, 2, 0, 1);
        turned.decide(0, 0, 12, 3);
        c.due("28 as many: no bar", turned.ruling(0, 6), 0);
        c.due("28 without one not to: it would bar", turned.kin(0, 2), 1);
    }

    private static void like() {
        AdvertCouncil x = panel(100, 110, 111, 90, 89);
        Check.phrase(x, 1, 2, 100, 0, 1);
        Check.phrase(x, 5, 1, 100, 0, 1);
        Check.advert(x, 0, 0, 1);
        Check.advert(x, 1, 1, 1);
        for (int i = 0; i < 7; i++) {
            c.due("26", x.decide(i % 2, i, 7, 0), i);
        }
        int[] due = {0, 1, 3, -1};
        for (int i = 0; i < due.length; i++) {
            c.due("29 like(0, 0, " + i + ")", x.like(0, 0, i), due[i]);
        }
        c.due("29 i below 0", x.like(0, 0, -1), -1);
        c.due("29 another subject", x.like(0, 5, 0), 5);
        c.due("29 another kind", x.like(0, 6, 0), 6);
        c.due("29 only one", x.like(0, 6, 1), -1);
        c.due("29 no claim", x.like(0, 7, 0), -1);
        c.due("29 no claim", x.like(0, -1, 0), -1);
        c.due("29 no advert", x.like(2, 0, 0), -1);
        c.due("29 no advert", x.like(-1, 0, 0), -1);
        x.appeal(0, true);
        c.due("29 that stand", x.like(0, 0, 0), 1);
        c.due("29 that stand", x.like(0, 0, 1), 3);
        c.due("29 that stand", x.like(0, 0, 2), -1);
    }

    private static void apart() {
        AdvertCouncil x = panel(100, 110, 111);
        Check.phrase(x, 5, 2, 90, 0, 1);
        Check.phrase(x, 1, 1, 89, 0, 1);
        Check.advert(x, 0, 0, 1);
        Check.advert(x, 0, 1, 1);
        Check.advert(x, 1, 0, 1);
        x.decide(0, 0, 7, 0);
        int[][] due = {{0, 0, 0}, {0, 1, 0}, {0, 2, 4}, {0, 3, 3}, {0, 4, 4}, {1, 0, 8}, {2, 0, 16}, {2, 3, 19}, {1, 4, 12}};
        for (int[] d : due) {
            c.due("30 apart(0, " + d[0] + ", " + d[1] + ")", x.apart(0, d[0], d[1]), d[2]);
        }
        c.due("30 no ruling", x.apart(1, 0, 0), -1);
        c.due("30 no ruling", x.apart(-1, 0, 0), -1);
        c.due("30 no advert", x.apart(0, 3, 0), -1);
        c.due("30 no advert", x.apart(0, -1, 0), -1);
        c.due("30 no claim", x.apart(0, 0, 5), -1);
        c.due("30 no claim", x.apart(0, 0, -1), -1);
        x.appeal(0, true);
        c.due("30 undone or not", x.apart(0, 2, 3), 19);
    }

    private static void binding() {
        AdvertCouncil x = panel(100, 111);
        Check.advert(x, 0, 0, 1);
        Check.advert(x, 1, 1, 1);
        c.due("31 none", x.binding(0, 0), -1);
        x.decide(0, 1, 7, 0);
        x.decide(1, 0, 7, 0);
        x.decide(0, 0, 0, 7);
        x.decide(1, 0, 0, 7);
        c.due("31 like, of the medium", x.binding(0, 0), 2);
        c.due("31 like, of the medium", x.binding(1, 0), 1);
        c.due("31 like, of the medium", x.binding(0, 1), 0);
        c.due("31 none", x.binding(1, 1), -1);
        c.due("31 no claim", x.binding(1, 2), -1);
        c.due("31 no advert", x.binding(2, 0), -1);
        c.due("27 bound then", x.ruling(3, 8), 1);
        c.due("27 not bound then", x.ruling(2, 8), -1);
        x.days(1);
        x.decide(1, 0, 7, 0);
        x.appeal(3, true);
        c.due("31 the first", x.binding(1, 0), 1);
        c.due("33", x.appeal(1, true), 2);
        c.due("31 none that stands", x.binding(1, 0), -1);
    }

    private static void clash() {
        AdvertCouncil x = panel(100, 110);
        Check.advert(x, 0, 0, 1);
        Check.advert(x, 1, 0, 1);
        Check.advert(x, 1, 1, 1);
        c.due("32 none", x.clash(0, 0), 0);
        x.decide(0, 0, 7, 0);
        x.decide(1, 1, 7, 0);
        c.due("32 all say so", x.clash(0, 0), 0);
        x.decide(1, 1, 0, 7);
        x.decide(0, 0, 0, 7);
        x.decide(0, 0, 0, 7);
        x.decide(2, 0, 0, 7);
        c.due("32 two by three", x.clash(0, 0), 6);
        c.due("32 of the medium", x.clash(2, 0), 0);
        c.due("32 no claim", x.clash(0, 2), -1);
        c.due("32 no claim", x.clash(0, -1), -1);
        c.due("32 no advert", x.clash(3, 0), -1);
        x.kin(0, 1);
        c.due("32 that stand", x.clash(0, 0), 2);
    }

    private static void again() {
        AdvertCouncil x = panel(100, 99, 101);
        Check.phrase(x, 5, 1, 100, 0, 1);
        Check.phrase(x, 1, 2, 100, 0, 1);
        Check.advert(x, 0, 0, 1);
        Check.advert(x, 1, 0, 1);
        x.decide(0, 0, 0, 7);
        c.due("16 it didn't bar", x.claim(0, 0, 7), 0);
        x.decide(0, 0, 7, 0);
        int[] due = {1, 0, 1, 0, 0};
        for (int i = 0; i < due.length; i++) {
            c.due("16 said again: claim " + i, x.claim(0, i, 7), due[i]);
            c.due("16 another firm: claim " + i, x.claim(1, i, 7), 0);
        }
        x.decide(0, 2, 7, 0);
        c.due("27 said again then", x.ruling(2, 7), 1);
        x.appeal(1, true);
        c.due("16 undone", x.claim(0, 0, 7), 0);
        c.due("16 the other stands, of a greater number", x.claim(0, 2, 7), 1);
        c.due("27 it was then", x.ruling(2, 7), 1);
    }

    private static void appeal() {
        AdvertCouncil x = panel(100);
        Check.advert(x, 0, 0, 1);
        Check.advert(x, 0, 1, 1);
        Check.advert(x, 0, 2, 1);
        c.due("33 nobody", x.appeal(0, true), -1);
        x.decide(0, 0, 7, 0);
        x.decide(1, 0, 7, 0);
        x.decide(2, 0, 7, 0);
        c.due("33 nobody", x.appeal(3, true), -1);
        c.due("33 nobody", x.appeal(-1, false), -1);
        c.due("33 not upheld", x.appeal(0, false), 0);
        c.due("33 it stands", x.ruling(0, 9), 0);
        c.due("33 it was appealed", x.appeal(0, true), -6);
        x.days(21);
        c.due("33 on the last day", x.appeal(1, true), 1);
        c.due("33 undone", x.ruling(1, 9), 2);
        c.due("33 it doesn't stand", x.appeal(1, false), -6);
        x.days(1);
        c.due("33 the days are over", x.appeal(2, true), -6);
        c.due("33 refused", x.status(16), 3);
        x.decide(2, 0, 7, 0);
        x.kin(0, 0);
        c.due("33 void", x.appeal(3, true), -6);
    }

    /** Rulings in medium 0: of 100, 110, 120, 130, each bound by the one before (10 apart). */
    private static AdvertCouncil chain() {
        AdvertCouncil x = panel(100, 110, 120, 130);
        Check.advert(x, 0, 0, 1);
        Check.advert(x, 1, 0, 1);
        c.due("26", x.decide(0, 0, 7, 0), 0);
        c.due("26", x.decide(1, 1, 7, 0), 1);
        c.due("26", x.decide(0, 2, 7, 0), 2);
        c.due("26", x.decide(0, 3, 7, 0), 3);
        for (int r = 0; r < 4; r++) {
            c.due("27 bound by the one before", x.ruling(r, 8), r - 1);
        }
        return x;
    }

    private static void appealChain() {
        AdvertCouncil x = chain();
        c.due("33 and so on", x.appeal(1, true), 3);
        int[] states = {0, 2, 2, 2};
        for (int r = 0; r < 4; r++) {
            c.due("33 state of " + r, x.ruling(r, 9), states[r]);
        }
        x = chain();
        c.due("28 the second is void", x.kin(0, 1), 1);
        c.due("33 what hung on a void one stands", x.appeal(0, true), 1);
        states = new int[] {2, 1, 0, 0};
        for (int r = 0; r < 4; r++) {
            c.due("33 state of " + r, x.ruling(r, 9), states[r]);
        }
        x = chain();
        x.appeal(2, false);
        c.due("33 all, appealed or not", x.appeal(0, true), 4);
        c.due("41 undone", x.status(9), 4);
        c.due("41 stand", x.status(6), 0);
        c.due("33 undone", x.appeal(3, true), -6);
    }

    private static void step() {
        AdvertCouncil x = panel(100);
        Check.advert(x, 0, 0, 1);
        Check.advert(x, 1, 0, 1);
        c.due("34 no firm", x.step(12), -1);
        c.due("34 no firm", x.step(-1), -1);
        c.due("34 nothing is refused", x.status(11), 0);
        c.due("34 none", x.step(0), 0);
        x.decide(0, 0, 0, 7);
        c.due("34 it didn't bar", x.step(0), 0);
        x.decide(0, 0, 7, 0);
        c.due("34 one", x.step(0), 1);
        x.decide(0, 0, 7, 0);
        c.due("34 again: two more", x.step(0), 3);
        x.decide(0, 0, 7, 0);
        c.due("34 five", x.step(0), 5);
        x.decide(0, 0, 7, 0);
        c.due("34 five at most", x.step(0), 5);
        c.due("34 another firm", x.step(1), 0);
        x.decide(1, 0, 7, 0);
        c.due("34 another firm", x.step(1), 1);
        AdvertCouncil one = panel(100);
        Check.advert(one, 0, 0, 1);
        one.decide(0, 0, 7, 0);
        c.due("34 the first", one.step(0), 1);
        x.kin(1, 0);
        c.due("34 void", x.step(0), 0);
    }

    private static void stepFalls() {
        AdvertCouncil x = panel(100);
        Check.advert(x, 0, 0, 1);
        x.days(500);
        x.decide(0, 0, 7, 0);
        x.decide(0, 0, 7, 0);
        x.decide(0, 0, 7, 0);
        x.decide(0, 0, 7, 0);
        x.days(359);
        c.due("34 not yet", x.step(0), 5);
        x.days(1);
        c.due("34 a year", x.step(0), 4);
        x.days(359);
        x.decide(0, 0, 7, 0);
        c.due("34 one year between, 359 days over: 5 at most", x.step(0), 5);
        x.days(2);
        c.due("34 the days over are gone", x.step(0), 5);
        x.days(1000);
        c.due("34 two years on", x.step(0), 3);
        x.days(1000);
        c.due("34 five years on", x.step(0), 0);
        x.days(1000);
        c.due("34 not below 0", x.step(0), 0);
        x.decide(0, 0, 7, 0);
        c.due("34 from 0", x.step(0), 2);
        x.days(720);
        x.decide(0, 0, 0, 7);
        c.due("34 not to: no step between", x.step(0), 0);
        AdvertCouncil capped = panel(100);
        Check.advert(capped, 0, 0, 1);
        for (int n = 0; n < 8; n++) {
            capped.decide(0, 0, 7, 0);
        }
        capped.days(720);
        c.due("34 no more than 5 are kept", capped.step(0), 3);
        capped.decide(0, 0, 7, 0);
        c.due("34 3 and 2", capped.step(0), 5);
    }
}
