/**
 * T5: "REFUSALS (the call answers the number; nothing changes but how many there were; the first that fits, in
 * this order)". Each call's refusals one by one, each that comes ahead of another where both fit, and what
 * stands behind it.
 */
public final class RefusalsTest {
    private static final int LEAST = Integer.MIN_VALUE;
    private static final int MOST = Integer.MAX_VALUE;

    private static final Check c = new Check("RefusalsTest");
    private static final Behind in = new Behind(c, House::made);
    private static final Behind full = new Behind(c, House::full);

    public static void main(String[] args) {
        days();
        row();
        set();
        copy();
        says();
        advert();
        print();
        saw();
        phrase();
        unphrase();
        keep();
        proof();
        measure();
        rule();
        ruleOrder();
        strike();
        seat();
        decide();
        decideOrder();
        kin();
        appeal();
        least();
        judge();
        stop();
        c.end();
    }

    private static void days() {
        c.sentence("2", "NOW goes on by n DAYS (1 to 1,000; 9,000 at most in all): NOW. -6.");
        in.refused(-6, "none", x -> x.days(0));
        in.refused(-6, "back", x -> x.days(-1));
        in.refused(-6, "the least int", x -> x.days(LEAST));
        in.refused(-6, "1,001", x -> x.days(1001));
        in.refused(-6, "the greatest int", x -> x.days(MOST));
        AdvertCouncil late = new AdvertCouncil();
        Check.daysOn(late, 8999);
        c.due("9,001 in all", late.days(2), -6);
        c.due("NOW as it was", late.status(10), 8999);
        c.due("one refusal", late.status(16), 1);
    }

    private static void row() {
        c.sentence("3", "-1; -4; -6 SORT; -7 n above 60.");
        in.refused(-1, "a SHELF below", x -> x.row(-1, 0, 1));
        in.refused(-1, "a SHELF above", x -> x.row(8, 0, 1));
        in.refused(-1, "the least SHELF", x -> x.row(LEAST, 0, 1));
        in.refused(-1, "the greatest SHELF", x -> x.row(MOST, 0, 1));
        in.refused(-1, "a SHELF ahead of the size", x -> x.row(8, 0, -1));
        in.refused(-1, "a SHELF ahead of the SORT", x -> x.row(8, 4, 1));
        in.refused(-1, "a SHELF ahead of room", x -> x.row(8, 0, 61));
        in.refused(-4, "a size below 0", x -> x.row(House.BYTES, 0, -1));
        in.refused(-4, "the least size", x -> x.row(House.CLAIM, 0, LEAST));
        in.refused(-4, "a size ahead of the SORT", x -> x.row(House.BYTES, 4, -1));
        in.refused(-6, "a SORT below", x -> x.row(House.BYTES, -1, 1));
        in.refused(-6, "a SORT above", x -> x.row(House.EMPTY, 4, 1));
        in.refused(-6, "the greatest SORT", x -> x.row(House.CLAIM, MOST, 1));
        in.refused(-6, "a SORT ahead of room", x -> x.row(House.BYTES, 4, 61));
        in.refused(-7, "n above 60", x -> x.row(House.BYTES, 0, 61));
        in.refused(-7, "the greatest n", x -> x.row(House.CLAIM, 3, MOST));
    }

    private static void set() {
        c.sentence("4", "-1; -2; -3; -5.");
        in.refused(-1, "a SHELF below", x -> x.set(-1, 0, 1));
        in.refused(-1, "a SHELF above", x -> x.set(8, 0, 1));
        in.refused(-1, "a SHELF ahead of the element", x -> x.set(8, -1, 1));
        in.refused(-2, "a CLAIM", x -> x.set(House.CLAIM, 0, 1));
        in.refused(-2, "a CLAIM ahead of the element", x -> x.set(House.CLAIM, 60, 1));
        in.refused(-3, "NOTHING", x -> x.set(House.EMPTY, 0, 1));
        in.refused(-3, "NOTHING ahead of the element", x -> x.set(House.EMPTY, -1, 1));
        in.refused(-5, "an element below", x -> x.set(House.BYTES, -1, 1));
        in.refused(-5, "the first behind the last", x -> x.set(House.BYTES, 3, 1));
        in.refused(-5, "far behind the last", x -> x.set(House.BYTES, 59, 1));
        in.refused(-5, "the first behind sixty", x -> x.set(House.SIXTY, 60, 1));
        in.refused(-5, "the greatest element", x -> x.set(House.SIXTY, MOST, 1));
        in.refused(-5, "the least element", x -> x.set(House.SIXTY, LEAST, 1));
    }

    private static void copy() {
        c.sentence("5", "-1; -2 also of two SORTS (when both hold something); -3 either; -4 n; -5 i or j below 0, or an "
            + "end that isn't there.");
        in.refused(-1, "p below", x -> x.copy(-1, 0, 0, 0, 1));
        in.refused(-1, "p above", x -> x.copy(8, 0, 0, 0, 1));
        in.refused(-1, "q below", x -> x.copy(0, -1, 0, 0, 1));
        in.refused(-1, "q above", x -> x.copy(0, 8, 0, 0, 1));
        in.refused(-1, "a SHELF ahead of a CLAIM", x -> x.copy(8, House.CLAIM, 0, 0, 1));
        in.refused(-1, "a SHELF ahead of NOTHING", x -> x.copy(House.EMPTY, 8, 0, 0, 1));
        in.refused(-1, "a SHELF ahead of all", x -> x.copy(House.CLAIM, 8, -1, -1, -1));
        in.refused(-2, "a CLAIM in p", x -> x.copy(House.CLAIM, 0, 0, 0, 1));
        in.refused(-2, "a CLAIM in q", x -> x.copy(0, House.CLAIM, 0, 0, 1));
        in.refused(-2, "a CLAIM in p ahead of NOTHING in q", x -> x.copy(House.CLAIM, House.EMPTY, 0, 0, 1));
        in.refused(-2, "a CLAIM in q ahead of NOTHING in p", x -> x.copy(House.EMPTY, House.CLAIM, 0, 0, 1));
        in.refused(-2, "two SORTS", x -> x.copy(House.BYTES, House.SHORTS, 0, 0, 1));
        in.refused(-2, "two SORTS ahead of n", x -> x.copy(House.INTS, House.LONGS, 0, 0, -1));
        in.refused(-2, "a CLAIM ahead of elements", x -> x.copy(House.CLAIM, 0, -1, 9, 1));
        in.refused(-3, "NOTHING in p", x -> x.copy(House.EMPTY, 0, 0, 0, 1));
        in.refused(-3, "NOTHING in q", x -> x.copy(0, House.EMPTY, 0, 0, 1));
        in.refused(-3, "NOTHING in both", x -> x.copy(House.EMPTY, House.EMPTY, 0, 0, 0));
        in.refused(-3, "NOTHING ahead of n", x -> x.copy(House.EMPTY, 0, 0, 0, -1));
        in.refused(-3, "NOTHING ahead of elements", x -> x.copy(0, House.EMPTY, -1, 0, 1));
        in.refused(-4, "n below 0", x -> x.copy(0, 0, 0, 0, -1));
        in.refused(-4, "the least n", x -> x.copy(House.BYTES, House.RULE, 0, 0, LEAST));
        in.refused(-4, "n ahead of i", x -> x.copy(0, 0, -1, 0, -1));
        in.refused(-4, "n ahead of an end", x -> x.copy(0, 0, 0, 9, -1));
        in.refused(-5, "i below 0", x -> x.copy(House.RULE, House.BYTES, -1, 0, 1));
        in.refused(-5, "j below 0", x -> x.copy(House.RULE, House.BYTES, 0, -1, 1));
        in.refused(-5, "i below 0 and none", x -> x.copy(House.RULE, House.BYTES, -1, 0, 0));
        in.refused(-5, "j below 0 and none", x -> x.copy(House.RULE, House.BYTES, 0, -1, 0));
        in.refused(-5, "an end in p", x -> x.copy(House.BYTES, House.RULE, 1, 0, 3));
        in.refused(-5, "an end in q", x -> x.copy(House.RULE, House.BYTES, 0, 1, 3));
        in.refused(-5, "the end of none in p", x -> x.copy(House.BYTES, House.RULE, 4, 0, 0));
        in.refused(-5, "the end of none in q", x -> x.copy(House.RULE, House.BYTES, 0, 4, 0));
        in.refused(-5, "an end that wraps around", x -> x.copy(House.RULE, House.BYTES, 1, 0, MOST));
        in.refused(-5, "an end in q that wraps around", x -> x.copy(House.RULE, House.BYTES, 0, MOST, 1));
        in.refused(-5, "both wrap around", x -> x.copy(House.RULE, House.BYTES, MOST, MOST, MOST));
    }

    private static void says() {
        c.sentence("8", "-1 SHELF, KIND; -2 also if it is of no such KIND (nor of one under it); -3.");
        in.refused(-1, "a SHELF below", x -> x.says(-1, 0));
        in.refused(-1, "a SHELF above", x -> x.says(8, 0));
        in.refused(-1, "a KIND below", x -> x.says(House.CLAIM, -1));
        in.refused(-1, "a KIND above", x -> x.says(House.CLAIM, 6));
        in.refused(-1, "the greatest KIND", x -> x.says(House.CLAIM, MOST));
        in.refused(-1, "a KIND ahead of a ROW", x -> x.says(House.BYTES, 6));
        in.refused(-1, "a KIND ahead of NOTHING", x -> x.says(House.EMPTY, -1));
        in.refused(-2, "a ROW", x -> x.says(House.BYTES, 0));
        in.refused(-2, "a ROW of sixty", x -> x.says(House.SIXTY, 5));
        in.refused(-2, "no such KIND", x -> x.says(House.CLAIM, 2));
        in.refused(-2, "a KIND under it", x -> x.says(House.CLAIM, 5));
        in.refused(-3, "NOTHING", x -> x.says(House.EMPTY, 0));
    }

    private static void advert() {
        c.sentence("9", "-1 FIRM, SHELF; -2; -3; -6 MEDIUM, more than 20 WORDS; -7.");
        in.refused(-1, "a FIRM below", x -> x.advert(-1, 0, 0));
        in.refused(-1, "a FIRM above", x -> x.advert(12, 0, 0));
        in.refused(-1, "the least FIRM", x -> x.advert(LEAST, 0, 0));
        in.refused(-1, "a SHELF below", x -> x.advert(0, 0, -1));
        in.refused(-1, "a SHELF above", x -> x.advert(0, 0, 8));
        in.refused(-1, "a FIRM ahead of a CLAIM", x -> x.advert(12, 0, House.CLAIM));
        in.refused(-1, "a FIRM ahead of NOTHING", x -> x.advert(12, 0, House.EMPTY));
        in.refused(-1, "a SHELF ahead of the MEDIUM", x -> x.advert(0, 6, 8));
        in.refused(-2, "a CLAIM", x -> x.advert(0, 0, House.CLAIM));
        in.refused(-2, "a CLAIM ahead of the MEDIUM", x -> x.advert(0, 6, House.CLAIM));
        in.refused(-3, "NOTHING", x -> x.advert(0, 0, House.EMPTY));
        in.refused(-3, "NOTHING ahead of the MEDIUM", x -> x.advert(0, -1, House.EMPTY));
        in.refused(-6, "a MEDIUM below", x -> x.advert(0, -1, 0));
        in.refused(-6, "a MEDIUM above", x -> x.advert(0, 6, 0));
        in.refused(-6, "the greatest MEDIUM", x -> x.advert(0, MOST, 0));
        in.refused(-6, "60 WORDS", x -> x.advert(0, 0, House.SIXTY));
        full.refused(-1, "a FIRM ahead of room", x -> x.advert(12, 0, 0));
        full.refused(-2, "a CLAIM ahead of room", x -> x.advert(0, 0, House.CLAIM));
        full.refused(-3, "NOTHING ahead of room", x -> x.advert(0, 0, House.EMPTY));
        full.refused(-6, "a MEDIUM ahead of room", x -> x.advert(0, 6, 0));
        full.refused(-6, "WORDS ahead of room", x -> x.advert(0, 0, House.SIXTY));
        full.refused(-7, "24 already", x -> x.advert(0, 0, 0));
    }

    private static void print() {
        c.sentence("10", "-1; -2; -3; -6 SIZE, more than 12.");
        in.refused(-1, "an ADVERT below", x -> x.print(-1, 0, 0));
        in.refused(-1, "an ADVERT above", x -> x.print(3, 0, 0));
        in.refused(-1, "the greatest ADVERT", x -> x.print(MOST, 0, 0));
        in.refused(-1, "a SHELF below", x -> x.print(0, -1, 0));
        in.refused(-1, "a SHELF above", x -> x.print(0, 8, 0));
        in.refused(-1, "an ADVERT ahead of a CLAIM", x -> x.print(3, House.CLAIM, 0));
        in.refused(-1, "an ADVERT ahead of NOTHING", x -> x.print(3, House.EMPTY, 0));
        in.refused(-1, "an ADVERT ahead of SIZE", x -> x.print(3, 0, 21));
        in.refused(-2, "a CLAIM", x -> x.print(0, House.CLAIM, 0));
        in.refused(-2, "a CLAIM ahead of SIZE", x -> x.print(0, House.CLAIM, 21));
        in.refused(-3, "NOTHING", x -> x.print(0, House.EMPTY, 0));
        in.refused(-3, "NOTHING ahead of SIZE", x -> x.print(0, House.EMPTY, -1));
        in.refused(-6, "a SIZE below", x -> x.print(0, 0, -1));
        in.refused(-6, "a SIZE above", x -> x.print(0, 0, 21));
        in.refused(-6, "the greatest SIZE", x -> x.print(0, 0, MOST));
        in.refused(-6, "sixty in PRINT", x -> x.print(0, House.SIXTY, 0));
    }

    private static void saw() {
        c.sentence("11", "-1; -6; -7 more than 9,999 of either in all.");
        in.refused(-1, "an ADVERT below", x -> x.saw(-1, 1, 1));
        in.refused(-1, "an ADVERT above", x -> x.saw(3, 1, 1));
        in.refused(-1, "an ADVERT ahead of children", x -> x.saw(3, -1, 1));
        in.refused(-6, "children below", x -> x.saw(0, -1, 1));
        in.refused(-6, "others below", x -> x.saw(0, 1, -1));
        in.refused(-6, "children above", x -> x.saw(0, 10000, 1));
        in.refused(-6, "others above", x -> x.saw(0, 1, 10000));
        in.refused(-6, "the greatest children", x -> x.saw(0, MOST, 1));
        in.refused(-6, "the least others", x -> x.saw(0, 1, LEAST));
        in.refused(-6, "children below ahead of others in all", x -> x.saw(0, -1, 9940));
        in.refused(-6, "others above ahead of children in all", x -> x.saw(0, 9970, 10000));
        in.refused(-7, "children in all", x -> x.saw(0, 9970, 1));
        in.refused(-7, "others in all", x -> x.saw(0, 1, 9940));
        in.refused(-7, "both in all", x -> x.saw(0, 9999, 9999));
    }

    private static void phrase() {
        c.sentence("13", "-1 SHELF, KIND; -2; -3; -6 not 1 to 6 WORDS, SUBJECT, NUMBER, DAY not 0 to 9,000; -7.");
        in.refused(-1, "a SHELF below", x -> x.phrase(-1, 0, 0, 0));
        in.refused(-1, "a SHELF above", x -> x.phrase(8, 0, 0, 0));
        in.refused(-1, "a KIND below", x -> x.phrase(0, -1, 0, 0));
        in.refused(-1, "a KIND above", x -> x.phrase(0, 6, 0, 0));
        in.refused(-1, "a KIND ahead of a CLAIM", x -> x.phrase(House.CLAIM, 6, 0, 0));
        in.refused(-1, "a KIND ahead of NOTHING", x -> x.phrase(House.EMPTY, 6, 0, 0));
        in.refused(-1, "a KIND ahead of the DAY", x -> x.phrase(0, 6, 0, -1));
        in.refused(-2, "a CLAIM", x -> x.phrase(House.CLAIM, 0, 0, 0));
        in.refused(-2, "a CLAIM ahead of the DAY", x -> x.phrase(House.CLAIM, 0, 0, 9001));
        in.refused(-3, "NOTHING", x -> x.phrase(House.EMPTY, 0, 0, 0));
        in.refused(-3, "NOTHING ahead of the SUBJECT", x -> x.phrase(House.EMPTY, 0, -1, 0));
        in.refused(-6, "sixty WORDS", x -> x.phrase(House.SIXTY, 0, 0, 0));
        in.refused(-6, "a SUBJECT above", x -> x.phrase(0, 0, 16000, 0));
        in.refused(-6, "a NUMBER below", x -> x.phrase(0, 0, -1, 0));
        in.refused(-6, "the least", x -> x.phrase(0, 0, LEAST, 0));
        in.refused(-6, "the greatest", x -> x.phrase(0, 0, MOST, 0));
        in.refused(-6, "a DAY below", x -> x.phrase(0, 0, 0, -1));
        in.refused(-6, "a DAY above", x -> x.phrase(0, 0, 0, 9001));
        full.refused(-1, "a KIND ahead of room", x -> x.phrase(0, 6, 0, 0));
        full.refused(-2, "a CLAIM ahead of room", x -> x.phrase(House.CLAIM, 0, 0, 0));
        full.refused(-3, "NOTHING ahead of room", x -> x.phrase(House.EMPTY, 0, 0, 0));
        full.refused(-6, "WORDS ahead of room", x -> x.phrase(House.SIXTY, 0, 0, 0));
        full.refused(-6, "a DAY ahead of room", x -> x.phrase(0, 0, 0, 9001));
        full.refused(-7, "20 already", x -> x.phrase(0, 0, 0, 0));
    }

    private static void unphrase() {
        c.sentence("14", "A PHRASE is STRUCK NOW: 1. -1; -6 it was.");
        in.refused(-1, "a PHRASE below", x -> x.unphrase(-1));
        in.refused(-1, "a PHRASE above", x -> x.unphrase(7));
        in.refused(-1, "the greatest PHRASE", x -> x.unphrase(MOST));
        full.refused(-1, "a PHRASE above 20", x -> x.unphrase(20));
        in.refused(-6, "it was", x -> x.unphrase(6));
    }

    private static void keep() {
        c.sentence("17", "advert NONE: NOTHING, NONE. -1 either.");
        in.refused(-1, "a SHELF below", x -> x.keep(-1, 0, 0));
        in.refused(-1, "a SHELF above", x -> x.keep(8, 0, 0));
        in.refused(-1, "a SHELF above ahead of NONE", x -> x.keep(8, -1, 0));
        in.refused(-1, "an ADVERT below NONE", x -> x.keep(House.BYTES, -2, 0));
        in.refused(-1, "an ADVERT above", x -> x.keep(House.BYTES, 3, 0));
        in.refused(-1, "a CLAIM below", x -> x.keep(House.CLAIM, 0, -1));
        in.refused(-1, "a CLAIM above", x -> x.keep(House.CLAIM, 0, 7));
        in.refused(-1, "an ADVERT of no CLAIMS", x -> x.keep(House.EMPTY, 2, 0));
    }

    private static void proof() {
        c.sentence("18", "-1 FIRM, SHELF; -2; -3; -6 SUBJECT; -7.");
        in.refused(-1, "a FIRM below", x -> x.proof(-1, 0, 0));
        in.refused(-1, "a FIRM above", x -> x.proof(12, 0, 0));
        in.refused(-1, "a SHELF below", x -> x.proof(0, 0, -1));
        in.refused(-1, "a SHELF above", x -> x.proof(0, 0, 8));
        in.refused(-1, "a FIRM ahead of a CLAIM", x -> x.proof(12, 0, House.CLAIM));
        in.refused(-1, "a FIRM ahead of NOTHING", x -> x.proof(12, 0, House.EMPTY));
        in.refused(-1, "a SHELF ahead of the SUBJECT", x -> x.proof(0, 16, 8));
        in.refused(-2, "a CLAIM", x -> x.proof(0, 0, House.CLAIM));
        in.refused(-2, "a CLAIM ahead of the SUBJECT", x -> x.proof(0, 16, House.CLAIM));
        in.refused(-3, "NOTHING", x -> x.proof(0, 0, House.EMPTY));
        in.refused(-3, "NOTHING ahead of the SUBJECT", x -> x.proof(0, -1, House.EMPTY));
        in.refused(-6, "a SUBJECT below", x -> x.proof(0, -1, 0));
        in.refused(-6, "a SUBJECT above", x -> x.proof(0, 16, 0));
        full.refused(-1, "a FIRM ahead of room", x -> x.proof(12, 0, 0));
        full.refused(-2, "a CLAIM ahead of room", x -> x.proof(0, 0, House.CLAIM));
        full.refused(-3, "NOTHING ahead of room", x -> x.proof(0, 0, House.EMPTY));
        full.refused(-6, "a SUBJECT ahead of room", x -> x.proof(0, 16, 0));
        full.refused(-7, "40 already", x -> x.proof(0, 0, 0));
    }

    private static void measure() {
        c.sentence("20", "SHARE (what 0), TENTH (1) becomes n (1 to 100): what it was. -6 either.");
        in.refused(-6, "a what below", x -> x.measure(-1, 50));
        in.refused(-6, "a what above", x -> x.measure(2, 50));
        in.refused(-6, "no SHARE", x -> x.measure(0, 0));
        in.refused(-6, "a SHARE above", x -> x.measure(0, 101));
        in.refused(-6, "no TENTH", x -> x.measure(1, 0));
        in.refused(-6, "a TENTH above", x -> x.measure(1, 101));
        in.refused(-6, "the least n", x -> x.measure(0, LEAST));
        in.refused(-6, "the greatest n", x -> x.measure(1, MOST));
    }

    private static void rule() {
        c.sentence("21", "A new RULE by the ROW in SHELF s FROM a DAY on: its number. -1; -2; -3; -6 DAY, a FAULT; -7.");
        in.refused(-1, "a SHELF below", x -> x.rule(-1, 0));
        in.refused(-1, "a SHELF above", x -> x.rule(8, 0));
        in.refused(-2, "a CLAIM", x -> x.rule(House.CLAIM, 0));
        in.refused(-3, "NOTHING", x -> x.rule(House.EMPTY, 0));
        in.refused(-6, "a DAY below", x -> x.rule(House.RULE, -1));
        in.refused(-6, "a DAY above", x -> x.rule(House.RULE, 9001));
        in.refused(-6, "the least DAY", x -> x.rule(House.RULE, LEAST));
        in.refused(-6, "the greatest DAY", x -> x.rule(House.RULE, MOST));
    }

    /** A ROW with a FAULT, and a RULE beyond room, change what fault() answers: that alone. */
    private static void ruleOrder() {
        in.refused(-1, "a SHELF ahead of the DAY", x -> x.rule(8, 9001));
        in.refused(-2, "a CLAIM ahead of the DAY", x -> x.rule(House.CLAIM, -1));
        in.refused(-3, "NOTHING ahead of the DAY", x -> x.rule(House.EMPTY, 9001));
        in.refused(-6, "a DAY with a FAULT", x -> x.rule(House.BYTES, 9001));
        full.refused(-1, "a SHELF ahead of room", x -> x.rule(8, 0));
        full.refused(-2, "a CLAIM ahead of room", x -> x.rule(House.CLAIM, 0));
        full.refused(-3, "NOTHING ahead of room", x -> x.rule(House.EMPTY, 0));
        full.refused(-6, "a DAY ahead of room", x -> x.rule(House.RULE, 9001));
        AdvertCouncil x = House.full();
        c.due("a FAULT ahead of room", x.rule(House.BYTES, 0), -6);
        c.due("its FAULT", x.fault(), 0);
        c.due("16 already", x.rule(House.RULE, 0), -7);
        c.due("it was a RULE", x.fault(), -1);
        c.due("16 RULES", x.status(3), 16);
        c.due("the 17th can't be struck", x.strike(16), -1);
        Behind faulty = new Behind(c, () -> {
            AdvertCouncil y = House.made();
            y.rule(House.BYTES, 0);
            return y;
        });
        faulty.refused(-6, "the same FAULT once more", y -> y.rule(House.BYTES, 0));
        full.refused(-7, "16 already, a RULE ahead of it too", y -> y.rule(House.RULE, 0));
    }

    private static void strike() {
        c.sentence("23", "A RULE is STRUCK NOW: 1. -1; -6 it was.");
        in.refused(-1, "a RULE below", x -> x.strike(-1));
        in.refused(-1, "a RULE above", x -> x.strike(2));
        in.refused(-1, "the greatest RULE", x -> x.strike(MOST));
        full.refused(-1, "a RULE above 16", x -> x.strike(16));
        in.refused(-6, "it was", x -> x.strike(1));
    }

    private static void seat() {
        c.sentence("25", "-1 a bit of none; -7.");
        in.refused(-1, "bit 12", x -> x.seat(1 << 12));
        in.refused(-1, "bit 12 beside others", x -> x.seat(1 << 13 | 4095));
        in.refused(-1, "the sign", x -> x.seat(LEAST));
        in.refused(-1, "all bits", x -> x.seat(-1));
        full.refused(-1, "a bit ahead of room", x -> x.seat(1 << 12));
        full.refused(-7, "9 already", x -> x.seat(0));
    }

    private static void decide() {
        c.sentence("26", "-1 ADVERT, CLAIM, a SEAT of none; -6 one both ways, fewer than 3 count; -7.");
        in.refused(-1, "an ADVERT below", x -> x.decide(-1, 0, 7, 0));
        in.refused(-1, "an ADVERT above", x -> x.decide(3, 0, 7, 0));
        in.refused(-1, "a CLAIM below", x -> x.decide(0, -1, 7, 0));
        in.refused(-1, "a CLAIM above", x -> x.decide(0, 7, 7, 0));
        in.refused(-1, "an ADVERT of no CLAIMS", x -> x.decide(2, 0, 7, 0));
        in.refused(-1, "a SEAT of none to bar", x -> x.decide(0, 0, 64 | 7, 0));
        in.refused(-1, "a SEAT of none not to", x -> x.decide(0, 0, 7, 64));
        in.refused(-1, "the sign", x -> x.decide(0, 0, LEAST | 7, 0));
        in.refused(-1, "the sign both ways", x -> x.decide(0, 0, LEAST, LEAST));
        in.refused(-6, "one both ways", x -> x.decide(0, 0, 7, 4));
        in.refused(-6, "all both ways", x -> x.decide(0, 0, 7, 7));
        in.refused(-6, "nobody", x -> x.decide(0, 0, 0, 0));
        in.refused(-6, "two to bar", x -> x.decide(0, 0, 3, 0));
        in.refused(-6, "one each way", x -> x.decide(0, 0, 1, 2));
        in.refused(-6, "two and one of KIN", x -> x.decide(1, 0, 3 | 16, 0));
        in.refused(-6, "two and one of KIN not to", x -> x.decide(1, 0, 3, 16));
    }

    private static void decideOrder() {
        in.refused(-1, "an ADVERT ahead of one both ways", x -> x.decide(3, 0, 7, 7));
        in.refused(-1, "a CLAIM ahead of too few", x -> x.decide(0, 7, 3, 0));
        in.refused(-1, "a SEAT of none ahead of one both ways", x -> x.decide(0, 0, 64 | 7, 7));
        in.refused(-1, "a SEAT of none both ways", x -> x.decide(0, 0, 64 | 7, 64));
        full.refused(-1, "a CLAIM ahead of room", x -> x.decide(0, 7, 7, 0));
        full.refused(-1, "a SEAT of none ahead of room", x -> x.decide(0, 0, 512 | 7, 0));
        full.refused(-6, "one both ways ahead of room", x -> x.decide(0, 0, 7, 1));
        full.refused(-6, "too few ahead of room", x -> x.decide(0, 0, 3, 0));
        full.refused(-7, "40 already", x -> x.decide(0, 0, 7, 0));
        AdvertCouncil none = new AdvertCouncil();
        Check.phrase(none, 0, 1, 1, 0, 1);
        Check.advert(none, 0, 0, 1);
        c.due("no SEATS yet, bit 0", none.decide(0, 0, 1, 0), -1);
        c.due("no SEATS yet, no bits", none.decide(0, 0, 0, 0), -6);
    }

    private static void kin() {
        c.sentence("28", "-1 either; -6 it was.");
        in.refused(-1, "a SEAT below", x -> x.kin(-1, 0));
        in.refused(-1, "a SEAT above", x -> x.kin(6, 0));
        in.refused(-1, "the greatest SEAT", x -> x.kin(MOST, 0));
        in.refused(-1, "a FIRM below", x -> x.kin(0, -1));
        in.refused(-1, "a FIRM above", x -> x.kin(0, 12));
        in.refused(-1, "the bit above FIRMS of one of KIN", x -> x.kin(5, 3 + 32));
        full.refused(-1, "a SEAT above 9", x -> x.kin(9, 0));
        in.refused(-6, "it was from the first", x -> x.kin(5, 3));
        in.refused(-6, "it was later", x -> x.kin(4, 2));
    }

    private static void appeal() {
        c.sentence("33", "-1; -6 it doesn't STAND, its 21 DAYS are over, it was appealed.");
        in.refused(-1, "a RULING below", x -> x.appeal(-1, true));
        in.refused(-1, "a RULING above", x -> x.appeal(5, true));
        in.refused(-1, "the greatest RULING", x -> x.appeal(MOST, false));
        full.refused(-1, "a RULING above 40", x -> x.appeal(40, true));
        in.refused(-6, "its DAYS are over", x -> x.appeal(0, true));
        in.refused(-6, "its DAYS are over, not upheld", x -> x.appeal(0, false));
        in.refused(-6, "it was appealed", x -> x.appeal(2, true));
        in.refused(-6, "it was appealed, not upheld", x -> x.appeal(2, false));
        in.refused(-6, "UNDONE", x -> x.appeal(3, true));
        in.refused(-6, "VOID", x -> x.appeal(4, true));
        in.refused(-6, "VOID, not upheld", x -> x.appeal(4, false));
    }

    private static void least() {
        c.sentence("35", "-1; -7 more than 12 WORDS.");
        in.refused(-1, "an ADVERT below", x -> x.least(-1));
        in.refused(-1, "an ADVERT above", x -> x.least(3));
        in.refused(-1, "the least ADVERT", x -> x.least(LEAST));
        in.refused(-7, "13 WORDS", x -> x.least(2));
    }

    private static void judge() {
        c.sentence("37", "-1; -2; -3; -6 a place of none.");
        in.refused(-1, "an ADVERT below", x -> x.judge(-1, 0));
        in.refused(-1, "an ADVERT above", x -> x.judge(3, 0));
        in.refused(-1, "a SHELF below", x -> x.judge(0, -1));
        in.refused(-1, "a SHELF above", x -> x.judge(0, 8));
        in.refused(-1, "an ADVERT ahead of a CLAIM", x -> x.judge(3, House.CLAIM));
        in.refused(-1, "an ADVERT ahead of NOTHING", x -> x.judge(3, House.EMPTY));
        in.refused(-1, "an ADVERT ahead of a place", x -> x.judge(3, House.RULE));
        in.refused(-2, "a CLAIM", x -> x.judge(0, House.CLAIM));
        in.refused(-3, "NOTHING", x -> x.judge(0, House.EMPTY));
        in.refused(-6, "places above", x -> x.judge(0, House.INTS));
        in.refused(-6, "one place of none in sixty", x -> x.judge(0, House.SIXTY));
        in.refused(-6, "a place below", x -> x.judge(0, House.LONGS));
        in.refused(-6, "a place of another ADVERT", x -> x.judge(1, House.BYTES));
    }

    private static void stop() {
        c.sentence("39", "-1 ADVERT, paper; -6 asked: it was; did: it wasn't asked, or did.");
        in.refused(-1, "an ADVERT below", x -> x.stop(2, -1, false));
        in.refused(-1, "an ADVERT above", x -> x.stop(2, 3, false));
        in.refused(-1, "a paper below", x -> x.stop(-1, 0, false));
        in.refused(-1, "a paper above", x -> x.stop(8, 0, false));
        in.refused(-1, "a paper above that did", x -> x.stop(8, 0, true));
        in.refused(-1, "an ADVERT ahead of what it was", x -> x.stop(0, 3, true));
        in.refused(-6, "asked: it was", x -> x.stop(0, 0, false));
        in.refused(-6, "asked: it was, and did", x -> x.stop(1, 0, false));
        in.refused(-6, "did: it wasn't asked", x -> x.stop(2, 0, true));
        in.refused(-6, "did: asked for another ADVERT", x -> x.stop(0, 1, true));
        in.refused(-6, "did: it did", x -> x.stop(1, 0, true));
    }
}
