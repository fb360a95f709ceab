/** Promises 21 to 24 and 38. */
public final class RulesTest {
    private static final Check c = new Check("RulesTest");

    public static void main(String[] args) {
        rule();
        faults();
        nesting();
        elementsOfSorts();
        latestFault();
        strike();
        bars();
        fields();
        joins();
        beside();
        c.end();
    }

    private static void rule() {
        AdvertCouncil x = new AdvertCouncil();
        Check.phrase(x, 0, 1, 1, 0, 1);
        Check.advert(x, 0, 0, 1);
        x.keep(1, 0, 0);
        c.due("21 no shelf", x.rule(8, -1), -1);
        c.due("21 no shelf", x.rule(-1, -1), -1);
        c.due("21 a claim", x.rule(1, -1), -2);
        c.due("21 nothing", x.rule(2, -1), -3);
        Check.text(x, 0, "b:k=1");
        c.due("21 day", x.rule(0, -1), -6);
        c.due("21 day", x.rule(0, 9001), -6);
        c.due("21 first", x.rule(0, 9000), 0);
        for (int n = 1; n < 16; n++) {
            c.due("21 up to 16", x.rule(0, 0), n);
        }
        Check.text(x, 0, "b:k=");
        c.due("21 fault ahead of room", x.rule(0, 0), -6);
        c.due("22 its fault", x.fault(), 4);
        Check.text(x, 0, "b:k=1");
        c.due("21 room", x.rule(0, 0), -7);
        c.due("22 it was a rule", x.fault(), -1);
        c.due("21 how many", x.status(3), 16);
    }

    private static void faults() {
        String[] texts = {
            "", "b", "b:", "c:k=1", "b;k=1", "B:k=1", "b:k", "b:k=", "b:k=1", "b:1=k", "b:1=1", "b:k==1",
            "b:0=k", "b:00=k", "b:01=k", "b:k=0", "b:k=00", "b:k=01", "b:k<9999", "b:k<10000", "b:9999>k",
            "b:10000>k", "b:k<1000&k=1", "b:q=1", "b:k=q", "b:kn=1", "b:k1=1", "b:1k=1", "b:k=1k", "b:k=1 ",
            "b: k=1", "b:k=1&", "b:k=1|", "b:&k=1", "b:k=1&&k=1", "b:k=1||k=1", "b:k=1&|k=1", "b:()",
            "b:(k=1", "b:(k=1)", "b:(k=1))", "b:((k=1)", "b:k=1)", "b:(k)=1", "b:(k=1)k=1", "b:!k=1",
            "b:!!k=1", "b:!", "b:k!=1", "b:k=!1", "b:k=1!", "b:!(k=1)", "b:(!k=1)&!n<5|(s>3&m=2)",
            "b:k<n", "b:y>z", "b:a=l|p=c", "b:k=1=1", "b:k<1>0", "b:k=-1", "b:(k=1|", "b:(k=1|k=2)&", "bb:k=1",
            "b:k=1&n", "b:k=1&n<", "b:k=1&!n<3|0<1",
        };
        int[] due = {
            0, 1, 2, 0, 1, 0, 3, 4, -1, -1, -1, 4,
            -1, 3, 3, -1, 5, 5, -1, 8, -1,
            6, -1, 2, 4, 3, 3, 3, 5, 5,
            2, 6, 6, 2, 6, 6, 6, 3,
            6, -1, 7, 8, 5, 4, 7, -1,
            -1, 3, 3, 4, 5, -1, -1,
            -1, -1, -1, 5, 5, 4, 7, 12, 1,
            7, 8, -1,
        };
        int rules = 0;
        AdvertCouncil x = new AdvertCouncil();
        for (int i = 0; i < texts.length; i++) {
            // some ten calls a text: an object answers for no more than 512
            if (i % 16 == 0) {
                x = new AdvertCouncil();
                rules = 0;
            }
            int got = Check.rule(x, 0, texts[i]);
            c.due("21 rule " + texts[i], got, due[i] == -1 ? rules : -6);
            c.due("22 fault of " + texts[i], x.fault(), due[i]);
            rules += due[i] == -1 ? 1 : 0;
        }
    }

    private static void nesting() {
        AdvertCouncil x = new AdvertCouncil();
        String twenty = "((((((((((((((((((((";
        c.due("21 twenty (", Check.rule(x, 0, "b:" + twenty + "k=1" + twenty.replace('(', ')')), 0);
        c.due("21 twenty one (", Check.rule(x, 0, "b:(" + twenty + "k=1)" + twenty.replace('(', ')')), -6);
        c.due("22 the twenty first", x.fault(), 22);
        c.due("21 twenty !", Check.rule(x, 0, "b:" + twenty.replace('(', '!') + "k=1"), 1);
        c.due("21 twenty one !", Check.rule(x, 0, "b:!" + twenty.replace('(', '!') + "k=1"), -6);
        c.due("22 the twenty first", x.fault(), 22);
        c.due("21 mixed", Check.rule(x, 0, "b:!(!(!(!(!(!(!(!(!(!(k=1))))))))))"), 2);
        c.due("21 mixed, one more", Check.rule(x, 0, "b:!(!(!(!(!(!(!(!(!(!(!k=1))))))))))"), -6);
        c.due("22 mixed, one more", x.fault(), 22);
        c.due("21 one beside the other", Check.rule(x, 0, "b:!!!!!!!!!!!!!!!!!!k=1&!!!!!!!!!!!!!!!!!!!!k=1"), 3);
        c.due("21 one behind another", Check.rule(x, 0, "b:(((((((((((((k=1)))))))))))))|((((((((((k=1))))))))))"), 4);
        c.due("21 twenty first later", Check.rule(x, 0, "b:k=1|" + twenty + "!k=1"), -6);
        c.due("22 twenty first later", x.fault(), 26);
        c.due("21 sixty elements", Check.rule(x, 0, "b:k=1&k=1&k=1&k=1&k=1&k=1&k=1&k=1&k=1&k=1&k=1&k=1&k=1&9=9999"), 5);
    }

    private static void elementsOfSorts() {
        AdvertCouncil x = new AdvertCouncil();
        for (int sort = 0; sort < 4; sort++) {
            Check.row(x, 0, sort, 'b', ':', 'k', '=', '1');
            c.due("21 of sort " + sort, x.rule(0, 0), sort);
        }
        Check.row(x, 0, 1, 'b', ':', 'k' + 256, '=', '1');
        c.due("21 a short that is no letter", x.rule(0, 0), -6);
        c.due("22", x.fault(), 2);
        Check.row(x, 0, 2, 'b', ':', 'k', '=', '1' + 65536);
        c.due("21 an int that is no letter", x.rule(0, 0), -6);
        c.due("22", x.fault(), 4);
        Check.row(x, 0, 2, 'b', ':', 'k', '=', Integer.MIN_VALUE);
        c.due("21 the least int", x.rule(0, 0), -6);
        c.due("22", x.fault(), 4);
        Check.row(x, 0, 2, 'b', ':', -1);
        c.due("21 minus one", x.rule(0, 0), -6);
        c.due("22", x.fault(), 2);
        Check.row(x, 0, 3, 'b', ':', 'k' + (7L << 32), '=', '1');
        c.due("21 a long's lowest bits", x.rule(0, 0), 4);
    }

    private static void latestFault() {
        AdvertCouncil x = new AdvertCouncil();
        c.due("22 none yet", x.fault(), -1);
        Check.rule(x, 0, "b:k");
        c.due("22", x.fault(), 3);
        Check.text(x, 0, "b:");
        x.rule(0, 9001);
        c.due("22 the day was wrong", x.fault(), 3);
        x.rule(1, 0);
        c.due("22 there was nothing", x.fault(), 3);
        x.rule(8, 0);
        c.due("22 there was no shelf", x.fault(), 3);
        x.rule(0, 9000);
        c.due("22", x.fault(), 2);
        Check.rule(x, 0, "b:k=1");
        c.due("22 a rule", x.fault(), -1);
    }

    private static void strike() {
        AdvertCouncil x = new AdvertCouncil();
        Check.phrase(x, 0, 1, 1, 0, 1);
        Check.advert(x, 0, 0, 1);
        x.days(4);
        Check.rule(x, 2, "b:k=0");
        c.due("23 nobody", x.strike(1), -1);
        c.due("23 nobody", x.strike(-1), -1);
        c.due("24 not from then", x.bars(0, 0, 1, 4), -1);
        c.due("24 from then", x.bars(0, 0, 2, 4), 0);
        c.due("24 not told", x.bars(0, 0, 4, 3), -1);
        x.days(3);
        c.due("23", x.strike(0), 1);
        c.due("23 it was", x.strike(0), -6);
        c.due("24 struck", x.bars(0, 0, 7, 7), -1);
        c.due("24 the day before", x.bars(0, 0, 6, 7), 0);
        c.due("24 known the day before", x.bars(0, 0, 7, 6), 0);
        c.due("24 later", x.bars(0, 0, 8, 8), -1);
    }

    private static void bars() {
        AdvertCouncil x = new AdvertCouncil();
        Check.phrase(x, 0, 1, 1, 0, 1);
        Check.phrase(x, 1, 1, 50, 10, 1);
        Check.advert(x, 0, 0, 1);
        Check.rule(x, 0, "b:k=1");
        Check.rule(x, 0, "b:k<2");
        c.due("24 the least that holds", x.bars(0, 0, 0, 0), 1);
        c.due("24 the least", x.bars(0, 1, 10, 0), 0);
        c.due("24 no such claim as of then", x.bars(0, 1, 9, 0), -1);
        c.due("24 no such claim", x.bars(0, 2, 10, 0), -1);
        c.due("24 no such claim", x.bars(0, -1, 0, 0), -1);
        c.due("24 no such advert", x.bars(1, 0, 0, 0), -1);
        c.due("24 no such advert", x.bars(-1, 0, 0, 0), -1);
        c.due("24 a below 0", x.bars(0, 0, -1, 0), -1);
        c.due("24 k below 0", x.bars(0, 0, 0, -1), -1);
        c.due("24 nothing is refused", x.status(11), 0);
    }

    private static void holds(AdvertCouncil x, String test, int claim, int a, int k, int due) {
        int rule = Check.rule(x, 0, "b:" + test);
        if (rule < 0) {
            throw new IllegalStateException(test);
        }
        c.due("24 " + test + " for claim " + claim + " as of " + a, x.bars(0, claim, a, k), due == 1 ? rule : -1);
        x.strike(rule);
    }

    private static void fields() {
        AdvertCouncil x = new AdvertCouncil();
        Check.phrase(x, 5, 13, 77, 0, 1);
        Check.phrase(x, 3, 13, 0, 0, 9);
        Check.advert(x, 3, 4, 1);
        holds(x, "k=5", 0, 0, 0, 1);
        holds(x, "n=77", 0, 0, 0, 1);
        holds(x, "s=13", 0, 0, 0, 1);
        holds(x, "m=4", 0, 0, 0, 1);
        holds(x, "p=0", 0, 0, 0, 1);
        holds(x, "c=0&l=0&a=0&z=0&y=0", 0, 359, 0, 1);
        Check.proof(x, 3, 13, 77);
        Check.print(x, 0, 17, 9);
        x.saw(0, 2, 1);
        x.seat(0);
        x.seat(0);
        x.seat(0);
        x.decide(0, 0, 7, 0);
        holds(x, "p=1&l=1&z=17", 0, 0, 0, 1);
        holds(x, "c=66", 0, 0, 0, 1);
        holds(x, "a=1", 0, 0, 0, 1);
        holds(x, "y=1", 0, 360, 0, 1);
        holds(x, "y=1", 0, 719, 0, 1);
        holds(x, "y=2", 0, 720, 0, 1);
        AdvertCouncil later = new AdvertCouncil();
        Check.phrase(later, 0, 1, 1, 0, 1);
        Check.advert(later, 0, 0, 1);
        later.seat(0);
        later.seat(0);
        later.seat(0);
        later.days(5);
        later.decide(0, 0, 7, 0);
        Check.rule(later, 0, "b:a=1");
        later.days(1);
        // the rule was told on day 5, so a look as known on day 4 finds neither
        c.due("24 said again later", later.bars(0, 0, 6, 6), 0);
        c.due("24 said again that day", later.bars(0, 0, 5, 5), 0);
        c.due("24 not before", later.bars(0, 0, 4, 6), -1);
        c.due("24 not known", later.bars(0, 0, 6, 4), -1);
        everyWho(x);
        saidAgainAheadOfTime();
    }

    /** The rule is known on all days that are looked at, so that the ruling's DAY alone tells. */
    private static void saidAgainAheadOfTime() {
        AdvertCouncil x = new AdvertCouncil();
        Check.phrase(x, 0, 1, 1, 0, 1);
        Check.advert(x, 0, 0, 1);
        Check.rule(x, 0, "b:a=1");
        Check.rule(x, 0, "b:p=1");
        x.seat(0);
        x.seat(0);
        x.seat(0);
        x.days(5);
        x.decide(0, 0, 7, 0);
        Check.proof(x, 0, 1);
        c.due("24 said again", x.bars(0, 0, 5, 5), 0);
        c.due("24 as of a day before", x.bars(0, 0, 4, 5), 1);
        c.due("24 known a day before", x.bars(0, 0, 5, 4), -1);
        x.appeal(0, true);
        c.due("24 undone", x.bars(0, 0, 5, 5), 1);
    }

    private static void everyWho(AdvertCouncil x) {
        Check.advert(x, 3, 4, 1);
        Check.rule(x, 0, "b:c=100");
        x.saw(1, 9999, 0);
        c.due("24 children alone", x.bars(1, 0, 0, 0), x.status(3) - 1);
        x.saw(1, 0, 9999);
        c.due("24 half of them", x.bars(1, 0, 0, 0), -1);
    }

    private static void joins() {
        AdvertCouncil x = new AdvertCouncil();
        Check.phrase(x, 1, 2, 30, 0, 1);
        Check.advert(x, 0, 0, 1);
        String[] tests = {
            "k=1&n=30", "k=1&n=31", "k=0&n=30", "k=0&n=31", "k=1|n=31", "k=0|n=31", "k=0|n=30",
            "k=1|k=0&n=31", "k=0&n=31|k=1", "(k=1|k=0)&n=31", "k=0&(n=31|k=1)", "!k=0&n=31", "!(k=0&n=31)",
            "!k=1|n=30", "!(k=1|n=30)", "!!k=1", "!!!k=1", "k=1&k=1&k=0", "k=0|k=0|k=1", "1<2", "2<2", "2>2",
            "3>2", "n<31", "n<30", "n>29", "n>30", "n=n", "k<n", "n<k", "k=1&!(n=30&!(s=2))",
            "!k=0&!k=2", "k=0|!k=0&n=30", "(k=0|!k=0)&(n=30|n=31)", "9999>n", "!(!k=1|!(n=30|s=0)&0=1)",
            "k=1&(n=30&(s=2&(m=0&(p=0&(l=0&(c=0&(a=0&(z=0))))))))",
        };
        int[] due = {
            1, 0, 0, 0, 1, 0, 1,
            1, 1, 0, 0, 0, 1,
            1, 0, 1, 0, 0, 1, 1, 0, 0,
            1, 1, 0, 1, 0, 1, 1, 0, 1,
            1, 1, 1, 1, 1, 1,
        };
        for (int i = 0; i < tests.length; i++) {
            if (x.status(3) == 16) {
                x = new AdvertCouncil();
                Check.phrase(x, 1, 2, 30, 0, 1);
                Check.advert(x, 0, 0, 1);
            }
            holds(x, tests[i], 0, 0, 0, due[i]);
        }
    }

    private static void beside() {
        AdvertCouncil x = new AdvertCouncil();
        c.due("38 none", x.beside(0), 0);
        c.due("38 no rule", x.beside(1), -1);
        Check.phrase(x, 0, 1, 5, 0, 1);
        Check.phrase(x, 1, 1, 50, 0, 1);
        Check.advert(x, 0, 0, 1, 1);
        Check.advert(x, 0, 1, 1);
        Check.advert(x, 0, 1, 2);
        Check.rule(x, 0, "b:k=0");
        Check.rule(x, 9000, "b:m=1");
        x.strike(0);
        c.due("38 none of them", x.beside(0), 0);
        c.due("38 a struck one", x.beside(1), 3);
        c.due("38 one to come", x.beside(2), 2);
        c.due("38 both", x.beside(3), 4);
        c.due("38 a bit of none", x.beside(4), -1);
        c.due("38 a bit of none", x.beside(7), -1);
        c.due("38 the sign", x.beside(Integer.MIN_VALUE), -1);
        c.due("38 nothing is refused", x.status(11), 0);
        x.unphrase(0);
        c.due("38 as read now", x.beside(3), 1);
    }
}
