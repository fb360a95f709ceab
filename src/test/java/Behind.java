import java.util.ArrayList;
import java.util.Arrays;
import java.util.List;
import java.util.function.Consumer;
import java.util.function.Supplier;

/**
 * What stands behind a call: two councils are made alike, one answers the call, and then both are asked
 * all that can be asked. A walk stays short of what an object answers for, so there are several of them.
 */
final class Behind {
    interface Call {
        long on(AdvertCouncil x);
    }

    private static final List<Consumer<Asked>> WALKS = List.of(
        Behind::shelves, Behind::adverts, Behind::claims, Behind::rulings, Behind::papers, Behind::kin, Behind::ends,
        Behind::goesOn);

    /** A council and what it answered. */
    private static final class Asked {
        final AdvertCouncil x;
        final List<Long> answers = new ArrayList<>();

        Asked(AdvertCouncil x) {
            this.x = x;
        }

        void told(long answer) {
            answers.add(answer);
        }
    }

    private final Check c;
    private final Supplier<AdvertCouncil> made;

    Behind(Check c, Supplier<AdvertCouncil> made) {
        this.c = c;
        this.made = made;
    }

    /** The call answers a refusal; there is one more of it, and else nothing changed. */
    void refused(int due, String what, Call call) {
        AdvertCouncil x = made.get();
        int[] before = refusals(x);
        c.due(what, call.on(x), due);
        before[-1 - due]++;
        c.due(what + ": one refusal more, of its number", Arrays.equals(refusals(x), before) ? 1 : 0, 1);
        nothingChanged(what, call);
    }

    /** The call answers, is no refusal, and nothing changed. */
    void looked(long due, String what, Call call) {
        AdvertCouncil x = made.get();
        int[] before = refusals(x);
        c.due(what, call.on(x), due);
        c.due(what + ": no refusal", Arrays.equals(refusals(x), before) ? 1 : 0, 1);
        nothingChanged(what, call);
    }

    private static int[] refusals(AdvertCouncil x) {
        int[] all = new int[7];
        for (int n = 0; n < 7; n++) {
            all[n] = x.status(11 + n);
        }
        return all;
    }

    private void nothingChanged(String what, Call call) {
        for (int n = 0; n < WALKS.size(); n++) {
            Asked one = new Asked(made.get());
            Asked other = new Asked(made.get());
            call.on(one.x);
            WALKS.get(n).accept(one);
            WALKS.get(n).accept(other);
            int at = 0;
            while (at < one.answers.size() && one.answers.get(at).equals(other.answers.get(at))) {
                at++;
            }
            c.due(what + ": walk " + n + " behind it, answers alike", at, other.answers.size());
        }
    }

    private static void shelves(Asked of) {
        for (int s = 0; s < 8; s++) {
            of.told(of.x.holds(s));
            for (int i = 0; i < 14; i++) {
                of.told(of.x.element(s, i));
            }
            of.told(of.x.element(s, 59));
        }
        of.told(of.x.fault());
        of.told(of.x.leastSet());
        counts(of);
    }

    private static void counts(Asked of) {
        for (int what = 0; what <= 10; what++) {
            of.told(of.x.status(what));
        }
    }

    private static void adverts(Asked of) {
        for (int advert = 0; advert < 4; advert++) {
            for (int what = 0; what < 8; what++) {
                of.told(of.x.about(advert, what));
                of.told(of.x.about(20 + advert, what));
            }
            of.told(of.x.claims(advert, House.NOW, House.NOW));
            of.told(of.x.claims(advert, House.NOW - 1, House.NOW));
            of.told(of.x.claims(20 + advert, 0, 0));
        }
        for (int firm = 0; firm < 12; firm++) {
            of.told(of.x.step(firm));
            of.told(of.x.results(firm, 2, House.NOW, 0));
            of.told(of.x.results(firm, 2, House.NOW, 1));
            of.told(of.x.results(firm, 15, House.NOW, 0));
        }
    }

    private static void claims(Asked of) {
        for (int advert = 0; advert < 2; advert++) {
            for (int i = 0; i < 8; i++) {
                for (int what = 0; what < 8; what++) {
                    of.told(of.x.claim(advert, i, what));
                }
                of.told(of.x.bars(advert, i, House.NOW, House.NOW));
                of.told(of.x.bars(advert, i, House.NOW - 1, House.NOW));
            }
        }
        for (int rules = 0; rules < 4; rules++) {
            of.told(of.x.beside(rules));
        }
        of.told(of.x.beside(-1 >>> 16));
    }

    private static void rulings(Asked of) {
        for (int ruling = 0; ruling < 7; ruling++) {
            for (int what = 0; what <= 10; what++) {
                of.told(of.x.ruling(ruling, what));
            }
            of.told(of.x.apart(ruling, 1, 0));
            of.told(of.x.like(0, 0, ruling));
            of.told(of.x.binding(0, ruling));
            of.told(of.x.clash(0, ruling));
        }
        of.told(of.x.ruling(39, 9));
    }

    private static void papers(Asked of) {
        for (int advert = 0; advert < 3; advert++) {
            for (int paper = 0; paper < 8; paper++) {
                of.told(of.x.stopped(paper, advert, false));
                of.told(of.x.stopped(paper, advert, true));
            }
        }
        for (int advert = 0; advert < 4; advert++) {
            of.told(of.x.least(advert));
            of.told(of.x.leastSet());
            of.told(of.x.judge(advert, House.BYTES));
        }
    }

    /** A seat's kin can be seen by making it kin alone. */
    private static void kin(Asked of) {
        for (int seat = 0; seat < 9; seat++) {
            for (int firm = 0; firm < 12; firm++) {
                of.told(of.x.kin(seat, firm));
            }
        }
        counts(of);
    }

    /** What was struck, appealed or asked can be seen by trying it. */
    private static void ends(Asked of) {
        for (int n = 0; n < 20; n++) {
            of.told(of.x.appeal(n, n % 2 == 0));
            of.told(of.x.unphrase(n));
            of.told(of.x.strike(n));
            of.told(of.x.stop(n % 8, n / 8, true));
            of.told(of.x.stop(n % 8, n / 8, false));
        }
        counts(of);
    }

    /** All that tells something once more, then what came of it. */
    private static void goesOn(Asked of) {
        for (int s = 0; s < 8; s++) {
            for (int kind = 0; kind < 6; kind++) {
                of.told(of.x.says(s, kind));
            }
        }
        of.told(of.x.measure(0, 1));
        of.told(of.x.measure(1, 1));
        of.told(of.x.saw(0, 0, 0));
        of.told(of.x.print(0, House.BYTES, 3));
        of.told(of.x.advert(0, 0, House.BYTES));
        of.told(of.x.phrase(House.SHORTS, 0, 1, 0));
        of.told(of.x.proof(0, 0, House.INTS));
        of.told(of.x.rule(House.RULE, 0));
        of.told(of.x.seat(0));
        of.told(of.x.decide(0, 0, 7, 0));
        of.told(of.x.days(1));
        counts(of);
        of.told(of.x.fault());
        of.told(of.x.claims(0, House.NOW + 1, House.NOW + 1));
        for (int i = 0; i < 4; i++) {
            of.told(of.x.bars(0, i, House.NOW + 1, House.NOW + 1));
        }
    }
}
