/** The bounds of RULES: T3, promises 21 to 24 and 38. What is refused stands in RefusalsTest, too. */
public final class RulesBoundsTest {
    private static final int MOST = Integer.MAX_VALUE;
    private static final String TWENTY = "((((((((((((((((((((";

    private static final Check c = new Check("RulesBoundsTest");

    public static void main(String[] args) {
        numbers();
        full();
        fromDays();
        head();
        letters();
        tests();
        sides();
        ends();
        digits();
        zeroAhead();
        joins();
        parens();
        signs();
        nestedParens();
        nestedNots();
        nestedMixed();
        nestedBeside();
        nestedFault();
        sixty();
        elementsOfSorts();
        lettersAsThen();
        latestFault();
        latestFaultStays();
        strikes();
        strikeTwice();
        inForceFrom();
        inForceTold();
        inForceStruck();
        leastRule();
        barsDays();
        compares();
        fieldBounds();
        fieldChildren();
        fieldYears();
        fieldYearsNow();
        fieldBorne();
        fieldBack();
        fieldAgain();
        priorities();
        besideBits();
        besideAll();
        beside24();
        besideFacts();
        c.end();
    }

    private static void numbers() {
        c.sentence("T3", "RULES have numbers, from 0 on, 16 at most");
        AdvertCouncil x = new AdvertCouncil();
        Check.text(x, 0, "b:0=1");
        for (int n = 0; n < 16; n++) {
            c.due("none yet", x.strike(n), -1);
            c.due("its number", x.rule(0, 0), n);
        }
        c.due("a 17th", x.rule(0, 0), -7);
        c.due("none of its number", x.strike(16), -1);
        c.due("the last is STRUCK", x.strike(15), 1);
        c.due("no room by that", x.rule(0, 0), -7);
        c.due("as many", x.status(3), 16);
    }

    private static void full() {
        c.sentence("21", "-7");
        AdvertCouncil x = oneClaim();
        Check.text(x, 0, "b:0=1");
        for (int n = 0; n < 16; n++) {
            x.rule(0, 0);
        }
        Check.text(x, 0, "b:0=0");
        for (int n = 1; n <= 3; n++) {
            c.due("a 17th", x.rule(0, 0), -7);
            c.due("each counts", x.status(17), n);
        }
        c.due("nothing is BARRED by it", x.bars(0, 0, 0, 0), -1);
        c.due("nor by the last", x.beside(1 << 15), 0);
        c.due("none of its bit", x.beside(1 << 16), -1);
    }

    private static void fromDays() {
        c.sentence("21", "-6 DAY: 0 to 9,000");
        AdvertCouncil x = oneClaim();
        Check.text(x, 0, "b:0=0");
        c.due("FROM -1", x.rule(0, -1), -6);
        c.due("FROM 9,001", x.rule(0, 9001), -6);
        c.due("FROM the least", x.rule(0, Integer.MIN_VALUE), -6);
        c.due("FROM the greatest", x.rule(0, MOST), -6);
        c.due("as many", x.status(3), 0);
        c.due("FROM 9,000", x.rule(0, 9000), 0);
        c.due("AS OF 8,999", x.bars(0, 0, 8999, 0), -1);
        c.due("AS OF 9,000", x.bars(0, 0, 9000, 0), 0);
        c.due("FROM 0", x.rule(0, 0), 1);
        c.due("AS OF 0", x.bars(0, 0, 0, 0), 1);
    }

    /** The FAULT of a text, or NONE; each on a new object. */
    private static void faultIs(String text, int due) {
        AdvertCouncil x = new AdvertCouncil();
        c.due("rule " + text, Check.rule(x, 0, text), due == -1 ? 0 : -6);
        c.due("FAULT of " + text, x.fault(), due);
        c.due("RULES behind " + text, x.status(3), due == -1 ? 1 : 0);
    }

    private static void head() {
        c.sentence("T3", "b:EXPR");
        faultIs("", 0);
        faultIs("b", 1);
        faultIs("b:", 2);
        faultIs("a", 0);
        faultIs(":", 0);
        faultIs("k=1", 0);
        faultIs("bb:k=1", 1);
        faultIs("b=k=1", 1);
        faultIs("b::k=1", 2);
        faultIs("b:b:k=1", 2);
        faultIs("b:k=1b:k=1", 5);
        faultIs("b:k=1:", 5);
        faultIs("B:k=1", 0);
    }

    private static void letters() {
        c.sentence("T3", "FIELDS of a CLAIM in an ADVERT: k, n, s, m, p, c, l, a, z, y");
        for (char letter = 0; letter < 128; letter++) {
            boolean is = "knsmpclazy0123456789".indexOf(letter) >= 0;
            AdvertCouncil x = new AdvertCouncil();
            c.due("left " + (int) letter, Check.rule(x, 0, "b:" + letter + "=1"), is ? 0 : -6);
            boolean opens = letter == '(' || letter == '!';
            c.due("left " + (int) letter, x.fault(), is ? -1 : opens ? 3 : 2);
            c.due("right " + (int) letter, Check.rule(x, 0, "b:1<" + letter), is ? 1 : -6);
            c.due("right " + (int) letter, x.fault(), is ? -1 : 4);
        }
    }

    private static void tests() {
        c.sentence("T3", "a TEST: SIDE, one of < > =, SIDE");
        for (char letter = 0; letter < 128; letter++) {
            boolean is = letter == '<' || letter == '>' || letter == '=';
            AdvertCouncil x = new AdvertCouncil();
            c.due("sign " + (int) letter, Check.rule(x, 0, "b:k" + letter + "n"), is ? 0 : -6);
            c.due("sign " + (int) letter, x.fault(), is ? -1 : 3);
        }
        faultIs("b:k<=1", 4);
        faultIs("b:k>=1", 4);
        faultIs("b:k==1", 4);
        faultIs("b:k<>1", 4);
        faultIs("b:k=1=1", 5);
        faultIs("b:k=n>s", 5);
    }

    private static void sides() {
        c.sentence("T3", "SIDE: a FIELD, or a number: on both sides, not none");
        faultIs("b:=1", 2);
        faultIs("b:<1", 2);
        faultIs("b:>n", 2);
        faultIs("b:k=", 4);
        faultIs("b:k", 3);
        faultIs("b:1", 3);
        faultIs("b:=", 2);
        faultIs("b:k=1&=1", 6);
        faultIs("b:k=1|<1", 6);
        faultIs("b:!>1", 3);
        faultIs("b:(=1)", 3);
        faultIs("b:kn=1", 3);
        faultIs("b:k1=1", 3);
        faultIs("b:1k=1", 3);
        faultIs("b:k=kn", 5);
        faultIs("b:k=1n", 5);
        faultIs("b:k=k1", 5);
        faultIs("b:1=2", -1);
        faultIs("b:k=n", -1);
    }

    private static void ends() {
        c.sentence("T3", "(the number of elements, if it ends too early)");
        String whole = "b:!(k=12&n<s)|12>c";
        for (int size = 0; size <= whole.length(); size++) {
            boolean isRule = size == whole.indexOf(')') + 1 || size == whole.length();
            faultIs(whole.substring(0, size), isRule ? -1 : size);
        }
        faultIs("b:k=1&", 6);
        faultIs("b:k=1|", 6);
        faultIs("b:!", 3);
        faultIs("b:(", 3);
        faultIs("b:(k=1", 6);
        faultIs("b:((k=1)", 8);
        faultIs("b:(k=1&", 7);
    }

    private static void digits() {
        c.sentence("T3", "a number 0 to 9,999");
        faultIs("b:0=1", -1);
        faultIs("b:9=1", -1);
        faultIs("b:10=1", -1);
        faultIs("b:999=1", -1);
        faultIs("b:1000=1", -1);
        faultIs("b:9999=1", -1);
        faultIs("b:10000=1", 6);
        faultIs("b:99999=1", 6);
        faultIs("b:1=0", -1);
        faultIs("b:1=9", -1);
        faultIs("b:1=9999", -1);
        faultIs("b:1=10000", 8);
        faultIs("b:1=99990", 8);
        faultIs("b:1=123456", 8);
        faultIs("b:1234=5678", -1);
        faultIs("b:k=9999&n=10000", 15);
        faultIs("b:(1=9999)", -1);
        faultIs("b:(1=99999)", 9);
        faultIs("b:1=-1", 4);
        faultIs("b:1=+1", 4);
    }

    private static void zeroAhead() {
        c.sentence("T3", "(no 0 ahead of another digit)");
        faultIs("b:0=0", -1);
        faultIs("b:00=0", 3);
        faultIs("b:01=0", 3);
        faultIs("b:09=0", 3);
        faultIs("b:1=00", 5);
        faultIs("b:1=01", 5);
        faultIs("b:1=0001", 5);
        faultIs("b:10=100", -1);
        faultIs("b:1001=1010", -1);
        faultIs("b:k=0&n=0", -1);
        faultIs("b:k=0&n=00", 9);
        faultIs("b:0k=1", 3);
    }

    private static void joins() {
        c.sentence("T3", "AND-parts with | between; an AND-part: parts with & between");
        faultIs("b:&k=1", 2);
        faultIs("b:|k=1", 2);
        faultIs("b:k=1&&k=1", 6);
        faultIs("b:k=1||k=1", 6);
        faultIs("b:k=1&|k=1", 6);
        faultIs("b:k=1|&k=1", 6);
        faultIs("b:k=1&k=1|k=1&k=1", -1);
        faultIs("b:k=1k=1", 5);
        faultIs("b:k=1(k=1)", 5);
        faultIs("b:k=1!k=1", 5);
        faultIs("b:k=1 &k=1", 5);
        faultIs("b:k=1& k=1", 6);
        faultIs("b:k=1,k=1", 5);
    }

    private static void parens() {
        c.sentence("T3", "EXPR in ( )");
        faultIs("b:(k=1)", -1);
        faultIs("b:((k=1))", -1);
        faultIs("b:()", 3);
        faultIs("b:(k)", 4);
        faultIs("b:k=1)", 5);
        faultIs("b:(k=1))", 7);
        faultIs("b:)", 2);
        faultIs("b:(k=1)k=1", 7);
        faultIs("b:(k=1)(k=1)", 7);
        faultIs("b:(k=1)!k=1", 7);
        faultIs("b:(k)=1", 4);
        faultIs("b:k=(1)", 4);
        faultIs("b:(k=1)=1", 7);
        faultIs("b:(k=1|n=1)&s=1", -1);
        faultIs("b:(&k=1)", 3);
        faultIs("b:(k=1&)", 7);
    }

    private static void signs() {
        c.sentence("T3", "a part: ! and a part");
        faultIs("b:!k=1", -1);
        faultIs("b:!!k=1", -1);
        faultIs("b:!(k=1)", -1);
        faultIs("b:(!k=1)", -1);
        faultIs("b:k=1&!k=1|!!(k=1)", -1);
        faultIs("b:!&k=1", 3);
        faultIs("b:!)", 3);
        faultIs("b:k!=1", 3);
        faultIs("b:k=!1", 4);
        faultIs("b:k=1!", 5);
        faultIs("b:!1", 4);
    }

    private static String ofAll(String what, int times) {
        return what.repeat(times);
    }

    private static void nestedParens() {
        c.sentence("T3", "No more than 20 ( and ! within one another.: (");
        faultIs("b:" + ofAll("(", 19) + "k=1" + ofAll(")", 19), -1);
        faultIs("b:" + TWENTY + "k=1" + ofAll(")", 20), -1);
        faultIs("b:" + TWENTY + "(k=1" + ofAll(")", 21), 22);
        faultIs("b:" + TWENTY + "((k=1" + ofAll(")", 22), 22);
        faultIs("b:" + TWENTY + "k=1" + ofAll(")", 19), 44);
        faultIs("b:" + TWENTY + "k=1" + ofAll(")", 21), 45);
    }

    private static void nestedNots() {
        c.sentence("T3", "No more than 20 ( and ! within one another.: !");
        faultIs("b:" + ofAll("!", 19) + "k=1", -1);
        faultIs("b:" + ofAll("!", 20) + "k=1", -1);
        faultIs("b:" + ofAll("!", 21) + "k=1", 22);
        faultIs("b:" + ofAll("!", 40) + "k=1", 22);
        faultIs("b:" + ofAll("!", 20), 22);
        faultIs("b:" + ofAll("!", 58), 22);
    }

    private static void nestedMixed() {
        c.sentence("T3", "No more than 20 ( and ! within one another.: both");
        faultIs("b:" + ofAll("!(", 10) + "k=1" + ofAll(")", 10), -1);
        faultIs("b:" + ofAll("!(", 10) + "!k=1" + ofAll(")", 10), 22);
        faultIs("b:" + ofAll("!(", 10) + "(k=1)" + ofAll(")", 10), 22);
        faultIs("b:" + ofAll("(", 19) + "!k=1" + ofAll(")", 19), -1);
        faultIs("b:" + ofAll("(", 19) + "!!k=1" + ofAll(")", 19), 22);
        faultIs("b:" + ofAll("!", 19) + "(k=1)", -1);
        faultIs("b:" + ofAll("!", 19) + "((k=1))", 22);
    }

    private static void nestedBeside() {
        c.sentence("T3", "within one another: not one beside another");
        faultIs("b:" + ofAll("(", 12) + "k=1" + ofAll(")", 12) + "|" + ofAll("(", 12) + "k=1" + ofAll(")", 12), -1);
        faultIs("b:" + ofAll("!", 20) + "k=1&" + ofAll("!", 20) + "k=1", -1);
        faultIs("b:" + ofAll("!", 20) + "k=1|" + ofAll("!", 21) + "k=1", 46);
        faultIs("b:(" + ofAll("!", 19) + "k=1&" + ofAll("!", 19) + "k=1)", -1);
        faultIs("b:(" + ofAll("!", 19) + "k=1|" + ofAll("!", 20) + "k=1)", 45);
        faultIs("b:" + ofAll("!k=1&", 11) + "k=1", -1);
        faultIs("b:k=1" + ofAll("&(k=1)", 9), -1);
    }

    private static void nestedFault() {
        c.sentence("T3", "the first place at which an element can't stand: the 21st");
        faultIs("b:" + TWENTY + "(", 22);
        faultIs("b:" + TWENTY + "!", 22);
        faultIs("b:k=1&" + TWENTY + "!k=1", 26);
        faultIs("b:" + TWENTY + ")", 22);
        faultIs("b:" + TWENTY + "&", 22);
        faultIs("b:x" + TWENTY, 2);
    }

    private static void sixty() {
        c.sentence("T1", "A ROW has .. 0 to 60 elements: a RULE of sixty");
        String tests = "k=1&".repeat(13);
        faultIs("b:" + tests + "9=9999", -1);
        faultIs("b:" + tests + "9=99&n", 60);
        faultIs("b:" + tests + "9=999x", 59);
        faultIs("b:" + tests + "9=999&", 60);
        AdvertCouncil x = oneClaim();
        Check.rule(x, 0, "b:" + "k=0&".repeat(13) + "9<9999");
        Check.rule(x, 0, "b:" + "k=0&".repeat(13) + "9>9999");
        Check.rule(x, 0, "b:" + "k=1|".repeat(13) + "9<9999");
        c.due("all of it holds", x.beside(1), 1);
        c.due("not its last", x.beside(2), 0);
        c.due("its last alone", x.beside(4), 1);
    }

    private static void elementsOfSorts() {
        c.sentence("T1", "Everywhere elements count as ints (of longs the lowest 32 bits): letters");
        for (int sort = 0; sort < 4; sort++) {
            AdvertCouncil x = new AdvertCouncil();
            Check.row(x, 0, sort, 'b', ':', 'k', '=', '1');
            c.due("SORT " + sort, x.rule(0, 0), 0);
        }
        long[] not = {'k' + 256, -1, 'k' - 256, 'k' + 65536, Integer.MIN_VALUE, 0};
        for (long letter : not) {
            AdvertCouncil x = new AdvertCouncil();
            Check.row(x, 0, 2, 'b', ':', letter, '=', '1');
            c.due("letter " + letter, x.rule(0, 0), -6);
            c.due("letter " + letter, x.fault(), 2);
        }
        AdvertCouncil x = new AdvertCouncil();
        Check.row(x, 0, 3, 'b' + (1L << 32), ':' - (1L << 40), 'k' + (1L << 62), '=', '1');
        c.due("longs", x.rule(0, 0), 0);
        Check.row(x, 0, 3, 'b', ':', 'k' + (1L << 31), '=', '1');
        c.due("a long's 32nd bit", x.rule(0, 0), -6);
        Check.row(x, 0, 3, 'b', ':', 'k', '=', '1', -1);
        c.due("-1 behind it", x.rule(0, 0), -6);
        c.due("-1 behind it", x.fault(), 5);
    }

    private static void lettersAsThen() {
        c.sentence("21", "A new RULE by the ROW in SHELF s");
        AdvertCouncil x = oneClaim();
        Check.text(x, 0, "b:k=0");
        x.rule(0, 0);
        x.set(0, 4, '1');
        c.due("behind a set", x.bars(0, 0, 0, 0), 0);
        x.rule(0, 0);
        c.due("another RULE", x.beside(2), 0);
        c.due("the first", x.beside(1), 1);
        x.row(0, 0, 0);
        c.due("behind a row", x.beside(1), 1);
        Check.rule(x, 0, "b:k=0&k=0&k=0&k=1");
        c.due("behind a longer RULE", x.beside(1), 1);
    }

    private static void latestFault() {
        c.sentence("22", "The FAULT of the latest rule() that came to a ROW ..; NONE: it was a RULE, or none yet.");
        AdvertCouncil x = new AdvertCouncil();
        c.due("none yet", x.fault(), -1);
        Check.rule(x, 0, "b:k=");
        c.due("a FAULT", x.fault(), 4);
        Check.rule(x, 0, "x");
        c.due("the first place", x.fault(), 0);
        Check.rule(x, 0, "b:k=1");
        c.due("it was a RULE", x.fault(), -1);
        Check.rule(x, 0, "");
        c.due("an empty ROW", x.fault(), 0);
        c.due("asked again", x.fault(), 0);
    }

    private static void latestFaultStays() {
        c.sentence("22", "that came to a ROW (with DAY right)");
        AdvertCouncil x = House.made();
        c.due("the FAULT", x.fault(), 3);
        x.rule(House.BYTES, -1);
        c.due("a DAY below", x.fault(), 3);
        x.rule(House.RULE, 9001);
        c.due("a DAY above", x.fault(), 3);
        x.rule(House.CLAIM, 0);
        c.due("a CLAIM", x.fault(), 3);
        x.rule(House.EMPTY, 0);
        c.due("NOTHING", x.fault(), 3);
        x.rule(8, 0);
        c.due("no SHELF", x.fault(), 3);
        x.rule(House.BYTES, 9000);
        c.due("a ROW, on the last DAY", x.fault(), 0);
        x.rule(House.RULE, 0);
        c.due("a RULE", x.fault(), -1);
        AdvertCouncil full = House.full();
        full.rule(House.BYTES, 0);
        c.due("a FAULT where there is no room", full.fault(), 0);
        c.due("no room", full.rule(House.RULE, 0), -7);
        c.due("it was a RULE", full.fault(), -1);
    }

    /** One CLAIM of SUBJECT 1 in ADVERT 0 of FIRM 0. */
    private static AdvertCouncil oneClaim() {
        AdvertCouncil x = new AdvertCouncil();
        Check.phrase(x, 0, 1, 1, 0, 1);
        Check.advert(x, 0, 0, 1);
        return x;
    }

    private static void strikes() {
        c.sentence("23", "A RULE is STRUCK NOW: 1. -1");
        AdvertCouncil x = oneClaim();
        Check.rule(x, 0, "b:k=0");
        Check.rule(x, 0, "b:s=1");
        c.due("-1", x.strike(-1), -1);
        c.due("2", x.strike(2), -1);
        c.due("the greatest", x.strike(MOST), -1);
        c.due("behind it", x.bars(0, 0, 0, 0), 0);
        c.due("the first", x.strike(0), 1);
        c.due("the last IN FORCE", x.bars(0, 0, 0, 0), 1);
        c.due("the last", x.strike(1), 1);
        c.due("none", x.bars(0, 0, 0, 0), -1);
        c.due("as many", x.status(3), 2);
    }

    private static void strikeTwice() {
        c.sentence("23", "-6 it was.");
        AdvertCouncil x = oneClaim();
        Check.rule(x, 0, "b:k=0");
        x.days(40);
        c.due("once", x.strike(0), 1);
        c.due("twice", x.strike(0), -6);
        x.days(40);
        c.due("later", x.strike(0), -6);
        c.due("the first DAY counts", x.bars(0, 0, 40, 80), -1);
        c.due("the first DAY counts", x.bars(0, 0, 39, 80), 0);
    }

    private static void inForceFrom() {
        c.sentence("T3", "RULES have .. FROM .. as PHRASES");
        AdvertCouncil x = oneClaim();
        Check.rule(x, 50, "b:k=0");
        c.due("the DAY ahead", x.bars(0, 0, 49, 9000), -1);
        c.due("the DAY", x.bars(0, 0, 50, 0), 0);
        c.due("the DAY behind", x.bars(0, 0, 51, 0), 0);
    }

    private static void inForceTold() {
        c.sentence("T3", "RULES have .. TOLD .. as PHRASES");
        AdvertCouncil x = oneClaim();
        x.days(50);
        Check.rule(x, 0, "b:k=0");
        c.due("the DAY ahead", x.bars(0, 0, 9000, 49), -1);
        c.due("the DAY", x.bars(0, 0, 0, 50), 0);
        c.due("the DAY behind", x.bars(0, 0, 0, 51), 0);
    }

    private static void inForceStruck() {
        c.sentence("T3", "RULES have .. STRUCK as PHRASES");
        AdvertCouncil x = oneClaim();
        Check.rule(x, 0, "b:k=0");
        x.days(50);
        x.strike(0);
        int[][] due = {{49, 49, 0}, {49, 50, 0}, {50, 49, 0}, {50, 50, -1}, {51, 50, -1}, {50, 51, -1}, {9000, 49, 0},
            {49, 9000, 0}, {9000, 9000, -1}};
        for (int[] d : due) {
            c.due("bars(0, 0, " + d[0] + ", " + d[1] + ")", x.bars(0, 0, d[0], d[1]), d[2]);
        }
    }

    private static void leastRule() {
        c.sentence("T3", "the least RULE IN FORCE that holds for it");
        AdvertCouncil x = oneClaim();
        Check.rule(x, 0, "b:k=1");
        Check.rule(x, 10, "b:k=0");
        Check.rule(x, 0, "b:s=1");
        Check.rule(x, 0, "b:n=1");
        c.due("the first doesn't hold, the second isn't IN FORCE", x.bars(0, 0, 9, 0), 2);
        c.due("the second is", x.bars(0, 0, 10, 0), 1);
        x.strike(2);
        c.due("the third is STRUCK", x.bars(0, 0, 9, 0), 3);
        x.strike(3);
        c.due("none", x.bars(0, 0, 9, 0), -1);
        for (int n = 4; n < 15; n++) {
            Check.rule(x, 9000, "b:0=0");
        }
        Check.rule(x, 0, "b:0=0");
        c.due("the last of sixteen", x.bars(0, 0, 9, 0), 15);
    }

    private static void barsDays() {
        c.sentence("24", "CLAIM i of an ADVERT, as READ AS OF a, KNOWN k .. NONE: .. a, k below 0.");
        AdvertCouncil x = oneClaim();
        Check.rule(x, 0, "b:0=0");
        x.days(20);
        Check.phrase(x, 4, 1, 1, 40, 1);
        c.due("0, 0", x.bars(0, 0, 0, 0), 0);
        c.due("-1, 0", x.bars(0, 0, -1, 0), -1);
        c.due("0, -1", x.bars(0, 0, 0, -1), -1);
        c.due("CLAIM 1 AS OF the DAY ahead", x.bars(0, 1, 39, 20), -1);
        c.due("CLAIM 1 KNOWN the DAY ahead", x.bars(0, 1, 40, 19), -1);
        c.due("CLAIM 1", x.bars(0, 1, 40, 20), 0);
        c.due("CLAIM 1, the other way about", x.bars(0, 1, 20, 40), -1);
        c.due("CLAIM 2", x.bars(0, 2, 40, 20), -1);
        c.due("CLAIM -1", x.bars(0, -1, 40, 20), -1);
        c.due("ADVERT 1", x.bars(1, 0, 40, 20), -1);
        c.due("no refusals", x.status(11), 0);
    }

    /** Whether a RULE holds for CLAIM 0 of an ADVERT, as NOW is. */
    private static void holds(AdvertCouncil x, int advert, String test, int due) {
        int rule = Check.rule(x, 0, "b:" + test);
        c.due(test, rule >= 0 ? 1 : 0, 1);
        int now = x.status(10);
        c.due(test + " for ADVERT " + advert, x.bars(advert, 0, now, now), due == 1 ? rule : -1);
        x.strike(rule);
    }

    private static void compares() {
        c.sentence("T3", "SIDE, one of < > =, SIDE");
        AdvertCouncil x = oneClaim();
        String[] tests = {"1<2", "2<2", "3<2", "1>2", "2>2", "3>2", "1=2", "2=2", "9999=9999", "9998<9999", "9999>9998",
            "0=0", "10>9", "1000<999"};
        int[] due = {1, 0, 0, 0, 0, 1, 0, 1, 1, 1, 1, 1, 1, 0};
        for (int n = 0; n < tests.length; n++) {
            holds(x, 0, tests[n], due[n]);
        }
    }

    private static void fieldBounds() {
        c.sentence("T3", "k its KIND, n its NUMBER, s its SUBJECT, m the MEDIUM, z SIZE of PRINT: the least and the greatest");
        AdvertCouncil x = new AdvertCouncil();
        Check.phrase(x, 0, 0, 0, 0, 1);
        Check.phrase(x, 5, 15, 999, 0, 2);
        Check.advert(x, 0, 0, 1);
        Check.advert(x, 11, 5, 2);
        Check.print(x, 1, 20);
        String least = "k=0&n=0&s=0&m=0&z=0&p=0&c=0&l=0&a=0&y=0";
        holds(x, 0, least, 1);
        holds(x, 1, least, 0);
        holds(x, 1, "k=5&n=999&s=15&m=5&z=20", 1);
        holds(x, 0, "k=5|n=999|s=15|m=5|z=20", 0);
        holds(x, 1, "k=4|k=1|n=998|s=14|m=4|z=19|m=11", 0);
        Check.print(x, 1, 1);
        holds(x, 1, "z=1", 1);
    }

    private static void children(int children, int others, int due) {
        AdvertCouncil x = oneClaim();
        x.saw(0, children, others);
        holds(x, 0, "c=" + due, 1);
        holds(x, 0, "c>" + due + "|c<" + due, 0);
    }

    private static void fieldChildren() {
        c.sentence("T3", "c children of 100 that SAW it (cut; 0 if nobody did)");
        children(0, 0, 0);
        children(0, 1, 0);
        children(1, 0, 100);
        children(1, 1, 50);
        children(1, 2, 33);
        children(2, 1, 66);
        children(1, 98, 1);
        children(1, 99, 1);
        children(1, 100, 0);
        children(99, 1, 99);
        children(9999, 0, 100);
        children(0, 9999, 0);
        children(9999, 9999, 50);
        children(9999, 1, 99);
        children(1, 9999, 0);
        children(9998, 9999, 49);
    }

    private static void fieldYears() {
        c.sentence("T3", "y a by 360 (cut)");
        AdvertCouncil x = oneClaim();
        String[] tests = {"y=0", "y=1", "y=2", "y=24", "y=25", "y>25"};
        for (String test : tests) {
            Check.rule(x, 0, "b:" + test);
        }
        int[][] due = {{0, 0}, {359, 0}, {360, 1}, {719, 1}, {720, 2}, {8999, 3}, {9000, 4}, {9359, 4}, {9360, 5}, {MOST, 5}};
        for (int[] d : due) {
            c.due("bars(0, 0, " + d[0] + ", 0)", x.bars(0, 0, d[0], 0), d[1]);
            c.due("KNOWN later", x.bars(0, 0, d[0], 9000), d[1]);
        }
    }

    private static void fieldYearsNow() {
        c.sentence("T3", "y a by 360: where it is READ NOW");
        AdvertCouncil x = oneClaim();
        Check.rule(x, 0, "b:y=1");
        x.days(359);
        c.due("least, the DAY ahead", x.least(0), 0);
        c.due("judge, the DAY ahead", Check.judge(x, 0), 1);
        c.due("beside, the DAY ahead", x.beside(1), 0);
        x.days(1);
        c.due("least, the DAY", x.least(0), 1);
        c.due("judge, the DAY", Check.judge(x, 0), 0);
        c.due("beside, the DAY", x.beside(1), 1);
        x.days(360);
        c.due("least, a year on", x.least(0), 0);
    }

    private static void fieldBorne() {
        c.sentence("T3", "p 1 if BORNE OUT (else 0)");
        AdvertCouncil x = oneClaim();
        holds(x, 0, "p=0", 1);
        holds(x, 0, "p=1", 0);
        Check.proof(x, 0, 1);
        holds(x, 0, "p=1", 1);
        holds(x, 0, "p=0|p>1", 0);
    }

    private static void fieldBack() {
        c.sentence("T3", "l 1 if TAKEN BACK");
        AdvertCouncil x = oneClaim();
        Check.phrase(x, 3, 1, 1, 0, 9);
        holds(x, 0, "l=0", 1);
        holds(x, 0, "l>0", 0);
        Check.print(x, 0, 0, 9);
        holds(x, 0, "l=1", 1);
        holds(x, 0, "l=0|l>1", 0);
    }

    private static void fieldAgain() {
        c.sentence("T3", "a 1 if it is said AGAIN");
        AdvertCouncil x = oneClaim();
        Check.advert(x, 0, 4, 1);
        Check.advert(x, 4, 0, 1);
        for (int n = 0; n < 3; n++) {
            x.seat(0);
        }
        x.days(30);
        holds(x, 0, "a=0", 1);
        x.decide(0, 0, 7, 0);
        holds(x, 0, "a=1", 1);
        holds(x, 0, "a=0|a>1", 0);
        holds(x, 1, "a=1", 1);
        holds(x, 2, "a=1", 0);
        AdvertCouncil days = oneClaim();
        Check.rule(days, 0, "b:a=1");
        for (int n = 0; n < 3; n++) {
            days.seat(0);
        }
        days.days(30);
        days.decide(0, 0, 7, 0);
        c.due("on the DAY", days.bars(0, 0, 30, 30), 0);
        c.due("AS OF the DAY ahead", days.bars(0, 0, 29, 30), -1);
        c.due("KNOWN the DAY ahead", days.bars(0, 0, 30, 29), -1);
        c.due("both behind it", days.bars(0, 0, 31, 31), 0);
    }

    private static void priorities() {
        c.sentence("T3", "EXPR: AND-parts with | between; an AND-part: parts with & between; a part: ! and a part");
        AdvertCouncil x = oneClaim();
        String yes = "0=0";
        String no = "0=1";
        holds(x, 0, yes + "|" + yes + "&" + no, 1);
        holds(x, 0, no + "&" + yes + "|" + yes, 1);
        holds(x, 0, "(" + yes + "|" + yes + ")&" + no, 0);
        holds(x, 0, no + "&(" + yes + "|" + yes + ")", 0);
        holds(x, 0, "!" + no + "&" + no, 0);
        holds(x, 0, "!(" + no + "&" + no + ")", 1);
        holds(x, 0, "!" + yes + "|" + yes, 1);
        holds(x, 0, "!(" + yes + "|" + yes + ")", 0);
        holds(x, 0, "!!" + yes, 1);
        holds(x, 0, "!".repeat(19) + yes, 0);
        holds(x, 0, "!".repeat(20) + yes, 1);
        holds(x, 0, "(".repeat(20) + yes + ")".repeat(20), 1);
        holds(x, 0, "(".repeat(20) + no + ")".repeat(20), 0);
        holds(x, 0, yes + "&(" + yes + "&(" + yes + "&(" + yes + "&(" + yes + "&(" + yes + "&" + no + ")))))", 0);
        holds(x, 0, no + "|(" + no + "|(" + no + "|(" + no + "|(" + no + "|(" + no + "|" + yes + ")))))", 1);
        holds(x, 0, "!(" + no + "|!(" + yes + "&!(" + no + "|!(" + yes + "))))", 1);
    }

    private static void besideBits() {
        c.sentence("38", "NONE: a bit of none.");
        AdvertCouncil x = oneClaim();
        c.due("no RULES: none", x.beside(0), 0);
        c.due("no RULES: one", x.beside(1), -1);
        Check.text(x, 0, "b:0=0");
        for (int n = 0; n < 16; n++) {
            x.rule(0, 0);
            c.due("the last bit", x.beside(1 << n), 1);
            c.due("all bits", x.beside((1 << n + 1) - 1), 1);
            c.due("one bit more", x.beside(1 << n + 1), -1);
            c.due("one bit more beside others", x.beside((1 << n + 2) - 1), -1);
        }
        c.due("the sign", x.beside(Integer.MIN_VALUE), -1);
        c.due("the sign beside others", x.beside(Integer.MIN_VALUE | 1), -1);
        c.due("all", x.beside(-1), -1);
        c.due("none", x.beside(0), 0);
        c.due("no refusals", x.status(11) + x.status(16), 0);
    }

    private static void besideAll() {
        c.sentence("38", "if just the RULES of a set (bits) were IN FORCE");
        AdvertCouncil x = oneClaim();
        Check.advert(x, 1, 1, 1, 1);
        Check.rule(x, 9000, "b:m=0");
        Check.rule(x, 0, "b:m=1");
        x.strike(1);
        Check.rule(x, 0, "b:0=0");
        c.due("one to come", x.beside(1), 1);
        c.due("one that was STRUCK", x.beside(2), 2);
        c.due("both", x.beside(3), 3);
        c.due("none, though one is IN FORCE", x.beside(0), 0);
        c.due("all: each CLAIM once", x.beside(7), 3);
        x.days(10);
        Check.phrase(x, 4, 1, 1, 11, 1);
        c.due("CLAIMS as READ NOW", x.beside(4), 3);
        x.days(1);
        c.due("CLAIMS as READ NOW", x.beside(4), 6);
    }

    private static void beside24() {
        c.sentence("38", "How many CLAIMS of all ADVERTS: the first 24 of each");
        AdvertCouncil x = new AdvertCouncil();
        Check.phrase(x, 1, 1, 1, 0, 1);
        Check.phrase(x, 4, 1, 1, 0, 1);
        Check.rule(x, 0, "b:k=1");
        Check.rule(x, 0, "b:k=4");
        Check.row(x, 0, 0, 1);
        x.row(0, 0, 20);
        for (int i = 0; i < 20; i++) {
            x.set(0, i, 1);
        }
        for (int n = 0; n < 24; n++) {
            x.advert(n % 12, n % 6, 0);
        }
        c.due("all", x.beside(3), 576);
        c.due("half of them", x.beside(1), 288);
        c.due("half of them", x.beside(2), 288);
        c.due("none", x.beside(0), 0);
    }

    private static void besideFacts() {
        c.sentence("38", "as READ NOW: each for its own ADVERT");
        AdvertCouncil x = oneClaim();
        Check.advert(x, 1, 0, 1);
        Check.advert(x, 2, 0, 1);
        Check.rule(x, 0, "b:p=1|z=3|c=100");
        c.due("none", x.beside(1), 0);
        Check.proof(x, 1, 1);
        c.due("one BORNE OUT", x.beside(1), 1);
        Check.print(x, 0, 3);
        c.due("one of that SIZE", x.beside(1), 2);
        x.saw(2, 1, 0);
        c.due("one that children SAW", x.beside(1), 3);
    }
}
