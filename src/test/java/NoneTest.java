/**
 * The calls that only look: what they answer where there is no such one, that this is no REFUSAL (their promises
 * name none), and that nothing changed behind them, whether they found something or not.
 */
public final class NoneTest {
    private static final int LEAST = Integer.MIN_VALUE;
    private static final int MOST = Integer.MAX_VALUE;

    private static final Check c = new Check("NoneTest");
    private static final Behind in = new Behind(c, House::made);
    private static final Behind full = new Behind(c, House::full);

    public static void main(String[] args) {
        element();
        holds();
        about();
        claims();
        claim();
        results();
        fault();
        bars();
        ruling();
        like();
        apart();
        binding();
        clash();
        step();
        leastSet();
        judge();
        beside();
        stopped();
        status();
        c.end();
    }

    private static void element() {
        c.sentence("6", "Element i of the ROW; 0 if there is none (nothing is refused).");
        in.looked(1, "the first", x -> x.element(House.BYTES, 0));
        in.looked(60, "the last of sixty", x -> x.element(House.SIXTY, 59));
        in.looked(0, "one below", x -> x.element(House.BYTES, -1));
        in.looked(0, "one above", x -> x.element(House.BYTES, 3));
        in.looked(0, "one above sixty", x -> x.element(House.SIXTY, 60));
        in.looked(0, "the least", x -> x.element(House.BYTES, LEAST));
        in.looked(0, "the greatest", x -> x.element(House.SIXTY, MOST));
        in.looked(0, "a CLAIM", x -> x.element(House.CLAIM, 0));
        in.looked(0, "NOTHING", x -> x.element(House.EMPTY, 0));
        in.looked(0, "a SHELF below", x -> x.element(-1, 0));
        in.looked(0, "a SHELF above", x -> x.element(8, 0));
    }

    private static void holds() {
        c.sentence("7", "NONE NOTHING, or no such SHELF");
        in.looked(100, "a ROW of bytes", x -> x.holds(House.BYTES));
        in.looked(0, "a CLAIM", x -> x.holds(House.CLAIM));
        in.looked(-1, "NOTHING", x -> x.holds(House.EMPTY));
        in.looked(-1, "a SHELF below", x -> x.holds(-1));
        in.looked(-1, "a SHELF above", x -> x.holds(8));
        in.looked(-1, "the least SHELF", x -> x.holds(LEAST));
        in.looked(-1, "the greatest SHELF", x -> x.holds(MOST));
    }

    private static void about() {
        c.sentence("12", "NONE: no such one, another what.");
        in.looked(1, "the first", x -> x.about(0, 0));
        in.looked(0, "the last", x -> x.about(2, 7));
        in.looked(-1, "an ADVERT below", x -> x.about(-1, 0));
        in.looked(-1, "an ADVERT above", x -> x.about(3, 0));
        in.looked(-1, "a what below", x -> x.about(0, -1));
        in.looked(-1, "a what above", x -> x.about(0, 8));
        in.looked(-1, "the greatest what", x -> x.about(0, MOST));
        full.looked(11, "the 24th", x -> x.about(23, 0));
        full.looked(-1, "a 25th", x -> x.about(24, 0));
    }

    private static void claims() {
        c.sentence("15", "How many CLAIMS an ADVERT has as READ AS OF a, KNOWN k (0 on). NONE: no such one, a, k.");
        in.looked(7, "NOW", x -> x.claims(0, House.NOW, House.NOW));
        in.looked(0, "none in it", x -> x.claims(2, House.NOW, House.NOW));
        in.looked(9, "the first DAYS", x -> x.claims(0, 0, 0));
        in.looked(-1, "an ADVERT below", x -> x.claims(-1, 0, 0));
        in.looked(-1, "an ADVERT above", x -> x.claims(3, 0, 0));
        in.looked(-1, "a below 0", x -> x.claims(0, -1, 0));
        in.looked(-1, "k below 0", x -> x.claims(0, 0, -1));
        in.looked(-1, "both below 0", x -> x.claims(0, LEAST, LEAST));
        in.looked(-1, "a below 0 where there is nothing", x -> x.claims(2, -1, 0));
        in.looked(7, "the greatest", x -> x.claims(0, MOST, MOST));
    }

    private static void claim() {
        c.sentence("16", "NONE: no such one, another what.");
        in.looked(0, "the first", x -> x.claim(0, 0, 3));
        in.looked(3, "the last", x -> x.claim(0, 6, 3));
        in.looked(-1, "an ADVERT below", x -> x.claim(-1, 0, 0));
        in.looked(-1, "an ADVERT above", x -> x.claim(3, 0, 0));
        in.looked(-1, "a CLAIM below", x -> x.claim(0, -1, 0));
        in.looked(-1, "a CLAIM above", x -> x.claim(0, 7, 0));
        in.looked(-1, "the greatest CLAIM", x -> x.claim(0, MOST, 0));
        in.looked(-1, "an ADVERT of none", x -> x.claim(2, 0, 0));
        in.looked(-1, "a what below", x -> x.claim(0, 0, -1));
        in.looked(-1, "a what above", x -> x.claim(0, 0, 8));
    }

    private static void results() {
        c.sentence("19", "NONE - 9,999,999 (so -10,000,000): no such FIRM, SUBJECT, what.");
        in.looked(3, "the first what", x -> x.results(1, 2, 0, 0));
        in.looked(125, "the last what", x -> x.results(1, 2, 0, 1));
        in.looked(0, "the first FIRM", x -> x.results(0, 0, 0, 0));
        in.looked(0, "the last FIRM and SUBJECT", x -> x.results(11, 15, 0, 1));
        in.looked(0, "a k below 0", x -> x.results(1, 2, -1, 0));
        in.looked(-10000000, "a FIRM below", x -> x.results(-1, 2, 0, 0));
        in.looked(-10000000, "a FIRM above", x -> x.results(12, 2, 0, 0));
        in.looked(-10000000, "a SUBJECT below", x -> x.results(1, -1, 0, 0));
        in.looked(-10000000, "a SUBJECT above", x -> x.results(1, 16, 0, 0));
        in.looked(-10000000, "a what below", x -> x.results(1, 2, 0, -1));
        in.looked(-10000000, "a what above", x -> x.results(1, 2, 0, 2));
    }

    private static void fault() {
        c.sentence("22", "The FAULT of the latest rule() that came to a ROW (with DAY right)");
        in.looked(3, "the latest", x -> x.fault());
    }

    private static void bars() {
        c.sentence("24", "NONE: none, no such ADVERT, CLAIM, a, k below 0.");
        in.looked(0, "the first CLAIM", x -> x.bars(0, 0, 100, 100));
        in.looked(-1, "none", x -> x.bars(0, 1, 100, 100));
        in.looked(1, "before the RULE was STRUCK", x -> x.bars(0, 3, 99, 100));
        in.looked(-1, "an ADVERT below", x -> x.bars(-1, 0, 0, 0));
        in.looked(-1, "an ADVERT above", x -> x.bars(3, 0, 0, 0));
        in.looked(-1, "a CLAIM below", x -> x.bars(0, -1, 0, 0));
        in.looked(-1, "a CLAIM above", x -> x.bars(0, 9, 0, 0));
        in.looked(-1, "a CLAIM above as READ then", x -> x.bars(0, 7, 100, 100));
        in.looked(-1, "a below 0", x -> x.bars(0, 0, -1, 0));
        in.looked(-1, "k below 0", x -> x.bars(0, 0, 0, -1));
        in.looked(-1, "the least a", x -> x.bars(0, 0, LEAST, 0));
        in.looked(0, "the greatest", x -> x.bars(0, 0, MOST, MOST));
    }

    private static void ruling() {
        c.sentence("27", "NONE: no such one, another what.");
        in.looked(1, "the first", x -> x.ruling(0, 0));
        in.looked(3, "the last", x -> x.ruling(4, 10));
        in.looked(-1, "a RULING below", x -> x.ruling(-1, 0));
        in.looked(-1, "a RULING above", x -> x.ruling(5, 0));
        in.looked(-1, "a what below", x -> x.ruling(0, -1));
        in.looked(-1, "a what above", x -> x.ruling(0, 11));
        full.looked(0, "the 40th", x -> x.ruling(39, 9));
        full.looked(-1, "a 41st", x -> x.ruling(40, 9));
    }

    private static void like() {
        c.sentence("29", "NONE: none such.");
        in.looked(0, "the first", x -> x.like(0, 0, 0));
        in.looked(1, "the last", x -> x.like(0, 0, 1));
        in.looked(-1, "one behind the last", x -> x.like(0, 0, 2));
        in.looked(-1, "i below 0", x -> x.like(0, 0, -1));
        in.looked(-1, "the greatest i", x -> x.like(0, 0, MOST));
        in.looked(-1, "an ADVERT below", x -> x.like(-1, 0, 0));
        in.looked(-1, "an ADVERT above", x -> x.like(3, 0, 0));
        in.looked(-1, "a CLAIM below", x -> x.like(0, -1, 0));
        in.looked(-1, "a CLAIM above", x -> x.like(0, 7, 0));
    }

    private static void apart() {
        c.sentence("30", "NONE: no such ones.");
        in.looked(0, "the first", x -> x.apart(0, 0, 0));
        in.looked(-1, "a RULING below", x -> x.apart(-1, 0, 0));
        in.looked(-1, "a RULING above", x -> x.apart(5, 0, 0));
        in.looked(-1, "an ADVERT below", x -> x.apart(0, -1, 0));
        in.looked(-1, "an ADVERT above", x -> x.apart(0, 3, 0));
        in.looked(-1, "a CLAIM below", x -> x.apart(0, 0, -1));
        in.looked(-1, "a CLAIM above", x -> x.apart(0, 0, 7));
    }

    private static void binding() {
        c.sentence("31", "NONE: none, no such CLAIM.");
        in.looked(0, "the first", x -> x.binding(0, 0));
        in.looked(-1, "none", x -> x.binding(0, 3));
        in.looked(-1, "an ADVERT below", x -> x.binding(-1, 0));
        in.looked(-1, "an ADVERT above", x -> x.binding(3, 0));
        in.looked(-1, "a CLAIM below", x -> x.binding(0, -1));
        in.looked(-1, "a CLAIM above", x -> x.binding(0, 7));
    }

    private static void clash() {
        c.sentence("32", "NONE: no such CLAIM.");
        in.looked(0, "none", x -> x.clash(0, 0));
        in.looked(-1, "an ADVERT below", x -> x.clash(-1, 0));
        in.looked(-1, "an ADVERT above", x -> x.clash(3, 0));
        in.looked(-1, "a CLAIM below", x -> x.clash(0, -1));
        in.looked(-1, "a CLAIM above", x -> x.clash(0, 7));
    }

    private static void step() {
        c.sentence("34", "STEP of a FIRM NOW. NONE.");
        in.looked(0, "the first FIRM", x -> x.step(0));
        in.looked(2, "a FIRM with two", x -> x.step(1));
        in.looked(0, "the last FIRM", x -> x.step(11));
        in.looked(-1, "a FIRM below", x -> x.step(-1));
        in.looked(-1, "a FIRM above", x -> x.step(12));
        in.looked(-1, "the greatest FIRM", x -> x.step(MOST));
    }

    private static void leastSet() {
        c.sentence("36", "The set of the latest least() that was not refused, as bits of places");
        in.looked(5, "the latest", x -> x.leastSet());
    }

    private static void judge() {
        c.sentence("37", "Whether no CLAIM of an ADVERT is BARRED as READ NOW without the places: 1, 0.");
        in.looked(0, "one of two is left", x -> {
            x.set(House.BYTES, 1, 0);
            long answer = x.judge(0, House.BYTES);
            x.set(House.BYTES, 1, 2);
            return answer;
        });
        in.looked(1, "none is left", x -> {
            x.set(House.BYTES, 0, 0);
            long answer = x.judge(0, House.BYTES);
            x.set(House.BYTES, 0, 1);
            return answer;
        });
    }

    private static void beside() {
        c.sentence("38", "NONE: a bit of none.");
        in.looked(0, "no RULES", x -> x.beside(0));
        in.looked(3, "the first", x -> x.beside(1));
        in.looked(2, "the last", x -> x.beside(2));
        in.looked(-1, "a bit of none", x -> x.beside(4));
        in.looked(-1, "a bit of none beside others", x -> x.beside(7));
        in.looked(-1, "the sign", x -> x.beside(LEAST));
        in.looked(-1, "all bits", x -> x.beside(-1));
        full.looked(5, "all 16", x -> x.beside(65535));
        full.looked(-1, "a 17th", x -> x.beside(65536));
    }

    private static void stopped() {
        c.sentence("40", "NONE: not, no such ones.");
        in.looked(100, "asked", x -> x.stopped(0, 0, false));
        in.looked(-1, "asked, not done", x -> x.stopped(0, 0, true));
        in.looked(100, "did so", x -> x.stopped(1, 0, true));
        in.looked(-1, "not asked", x -> x.stopped(7, 0, false));
        in.looked(-1, "a paper below", x -> x.stopped(-1, 0, false));
        in.looked(-1, "a paper above", x -> x.stopped(8, 0, true));
        in.looked(-1, "an ADVERT below", x -> x.stopped(0, -1, false));
        in.looked(-1, "an ADVERT above", x -> x.stopped(0, 3, true));
    }

    private static void status() {
        c.sentence("41", "NONE for another what.");
        in.looked(3, "the first", x -> x.status(0));
        in.looked(0, "the last", x -> x.status(17));
        in.looked(-1, "a what below", x -> x.status(-1));
        in.looked(-1, "a what above", x -> x.status(18));
        in.looked(-1, "the least what", x -> x.status(LEAST));
        in.looked(-1, "the greatest what", x -> x.status(MOST));
    }
}
