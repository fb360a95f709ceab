import java.util.ArrayList;

/**
 * A council that rules on what adverts say. What each call promises stands in the document
 * (DOC.md); the calls stand here in its order.
 */
public final class AdvertCouncil {
    public static final int NONE = -1;

    private static final int FINE = 0;
    private static final int NOBODY = -1;
    private static final int OTHER = -2;
    private static final int NOTHING = -3;
    private static final int BELOW = -4;
    private static final int BEYOND = -5;
    private static final int WRONG = -6;
    private static final int ROOM = -7;
    private static final int REFUSALS = 7;

    private static final int SHELVES = 8;
    private static final int SORTS = 4;
    private static final int ROW_MOST = 60;
    private static final int ROW_SIGN = 100;

    private static final int FIRMS = 12;
    private static final int MEDIA = 6;
    private static final int SUBJECTS = 16;
    private static final int NUMBERS = 1000;
    private static final int PAPERS = 8;
    private static final int LAST_DAY = 9000;
    private static final int DAYS_MOST = 1000;

    private static final int ADVERTS_MOST = 24;
    private static final int WORDS_MOST = 20;
    private static final int PRINT_MOST = 12;
    private static final int SIZE_MOST = 20;
    private static final int SAW_MOST = 9999;
    private static final int PHRASES_MOST = 20;
    private static final int PHRASE_WORDS_MOST = 6;
    private static final int CLAIMS_MOST = 24;
    private static final int PROOFS_MOST = 40;
    private static final int RULES_MOST = 16;
    private static final int SEATS_MOST = 9;
    private static final int RULINGS_MOST = 40;
    private static final int LEAST_WORDS_MOST = 12;

    private static final int KIND_CLAIM = 0;
    private static final int KIND_NUMBER = 1;
    private static final int KIND_LIKENESS = 2;
    private static final int KIND_LEFT = 3;
    private static final int KIND_UPTO = 5;
    private static final int KINDS = 6;

    private static final String FIELDS = "knsmpclazy";
    private static final int NESTED_MOST = 20;
    private static final int DIGITS_MOST = 4;

    private static final int STANDS = 0;
    private static final int VOID = 1;
    private static final int UNDONE = 2;
    private static final int COUNT_LEAST = 3;
    private static final int NUMBERS_APART = 10;
    private static final int APPEAL_DAYS = 21;
    private static final int STEP_MOST = 5;
    private static final int YEAR = 360;

    private static final long NO_RESULTS = NONE - 9999999L;

    private final Shelf[] shelves = new Shelf[SHELVES];
    private final ArrayList<Advert> adverts = new ArrayList<>();
    private final ArrayList<Phrase> phrases = new ArrayList<>();
    private final ArrayList<Rule> rules = new ArrayList<>();
    private final Proofs proofs = new Proofs();
    private final Panel panel = new Panel();
    private final RuleReader reader = new RuleReader();
    private final Reading reading = new Reading();
    private final int[] facts = new int[FIELDS.length()];
    private final int[] wordsLeft = new int[WORDS_MOST];
    private final int[] refusals = new int[REFUSALS];
    private int now = 0;
    private int latestFault = NONE;
    private int latestSet = 0;

    public AdvertCouncil() {
        for (int s = 0; s < SHELVES; s++) {
            shelves[s] = new Shelf();
        }
    }

    // ---- days and shelves ----

    public int days(int n) {
        if (n < 1 || n > DAYS_MOST || now + n > LAST_DAY) {
            return refused(WRONG);
        }
        now += n;
        return now;
    }

    public int row(int s, int sort, int n) {
        if (!isShelf(s)) {
            return refused(NOBODY);
        }
        if (n < 0) {
            return refused(BELOW);
        }
        if (sort < 0 || sort >= SORTS) {
            return refused(WRONG);
        }
        if (n > ROW_MOST) {
            return refused(ROOM);
        }
        shelves[s].takeRow(sort, n);
        return 1;
    }

    public int set(int s, int i, long v) {
        int lack = lackOfRow(s);
        if (lack != FINE) {
            return refused(lack);
        }
        Shelf shelf = shelves[s];
        if (i < 0 || i >= shelf.size) {
            return refused(BEYOND);
        }
        shelf.cells[i] = shelf.cut(v);
        return 1;
    }

    public int copy(int p, int q, int i, int j, int n) {
        if (!isShelf(p) || !isShelf(q)) {
            return refused(NOBODY);
        }
        Shelf from = shelves[p];
        Shelf to = shelves[q];
        boolean twoSorts = from.isRow && to.isRow && from.sort != to.sort;
        if (from.claim != null || to.claim != null || twoSorts) {
            return refused(OTHER);
        }
        if (!from.isRow || !to.isRow) {
            return refused(NOTHING);
        }
        if (n < 0) {
            return refused(BELOW);
        }
        // a length less n can't pass an int's bounds, as a place and n could
        if (i < 0 || j < 0 || i > from.size - n || j > to.size - n) {
            return refused(BEYOND);
        }
        System.arraycopy(from.cells, i, to.cells, j, n);
        return 1;
    }

    public long element(int s, int i) {
        if (lackOfRow(s) != FINE || i < 0 || i >= shelves[s].size) {
            return 0;
        }
        return shelves[s].cells[i];
    }

    public int holds(int s) {
        if (!isShelf(s)) {
            return NONE;
        }
        Shelf shelf = shelves[s];
        if (shelf.claim != null) {
            return shelf.claim.index;
        }
        return shelf.isRow ? ROW_SIGN + shelf.sort : NONE;
    }

    public int says(int s, int kind) {
        if (!isShelf(s) || !isKind(kind)) {
            return refused(NOBODY);
        }
        Phrase said = shelves[s].claim;
        if (shelves[s].isRow || said != null && !said.isOf(kind)) {
            return refused(OTHER);
        }
        return said == null ? refused(NOTHING) : said.takenFor(kind);
    }

    // ---- adverts ----

    public int advert(int firm, int medium, int s) {
        if (!isFirm(firm) || !isShelf(s)) {
            return refused(NOBODY);
        }
        int lack = lackOfRow(s);
        if (lack != FINE) {
            return refused(lack);
        }
        if (medium < 0 || medium >= MEDIA || shelves[s].size > WORDS_MOST) {
            return refused(WRONG);
        }
        if (adverts.size() >= ADVERTS_MOST) {
            return refused(ROOM);
        }
        adverts.add(new Advert(firm, medium, shelves[s].asInts(), now));
        return adverts.size() - 1;
    }

    public int print(int advert, int s, int size) {
        Advert ad = advertOf(advert);
        if (ad == null) {
            return refused(NOBODY);
        }
        int lack = lackOfRow(s);
        if (lack != FINE) {
            return refused(lack);
        }
        if (size < 0 || size > SIZE_MOST || shelves[s].size > PRINT_MOST) {
            return refused(WRONG);
        }
        int before = ad.size;
        ad.print = shelves[s].asInts();
        ad.size = size;
        return before;
    }

    public int saw(int advert, int children, int others) {
        Advert ad = advertOf(advert);
        if (ad == null) {
            return refused(NOBODY);
        }
        if (children < 0 || children > SAW_MOST || others < 0 || others > SAW_MOST) {
            return refused(WRONG);
        }
        if (ad.children + children > SAW_MOST || ad.others + others > SAW_MOST) {
            return refused(ROOM);
        }
        ad.children += children;
        ad.others += others;
        return ad.children + ad.others;
    }

    public int about(int advert, int what) {
        Advert ad = advertOf(advert);
        if (ad == null) {
            return NONE;
        }
        switch (what) {
            case 0:
                return ad.firm;
            case 1:
                return ad.medium;
            case 2:
                return ad.words.length;
            case 3:
                return ad.print.length;
            case 4:
                return ad.size;
            case 5:
                return ad.children;
            case 6:
                return ad.others;
            case 7:
                return ad.day;
            default:
                return NONE;
        }
    }

    // ---- phrases and claims ----

    public int phrase(int s, int kind, int is, int from) {
        if (!isShelf(s) || !isKind(kind)) {
            return refused(NOBODY);
        }
        int lack = lackOfRow(s);
        if (lack != FINE) {
            return refused(lack);
        }
        int size = shelves[s].size;
        if (size < 1 || size > PHRASE_WORDS_MOST || is < 0 || is >= SUBJECTS * NUMBERS || !isDay(from)) {
            return refused(WRONG);
        }
        if (phrases.size() >= PHRASES_MOST) {
            return refused(ROOM);
        }
        phrases.add(new Phrase(phrases.size(), shelves[s].asInts(), kind, is, new Span(from, now)));
        return phrases.size() - 1;
    }

    public int unphrase(int phrase) {
        if (phrase < 0 || phrase >= phrases.size()) {
            return refused(NOBODY);
        }
        return endedNow(phrases.get(phrase).span);
    }

    public int claims(int advert, int a, int k) {
        Advert ad = advertOf(advert);
        if (ad == null || a < 0 || k < 0) {
            return NONE;
        }
        read(ad, a, k);
        return reading.size;
    }

    public int claim(int advert, int i, int what) {
        Advert ad = advertOf(advert);
        Phrase said = claimNow(ad, i);
        if (ad == null || said == null) {
            return NONE;
        }
        switch (what) {
            case 0:
                return said.kind;
            case 1:
                return said.subject;
            case 2:
                return said.number;
            case 3:
                return reading.placeOf(i);
            case 4:
                return said.index;
            case 5:
                return bit(isTakenBack(ad, said, now, now));
            case 6:
                return bit(proofs.bearOut(ad.firm, said, now));
            case 7:
                return bit(panel.isSaidAgain(ad.firm, said, now, now));
            default:
                return NONE;
        }
    }

    public int keep(int s, int advert, int i) {
        if (!isShelf(s)) {
            return refused(NOBODY);
        }
        if (advert == NONE) {
            shelves[s].takeNothing();
            return NONE;
        }
        Phrase said = claimNow(advertOf(advert), i);
        if (said == null) {
            return refused(NOBODY);
        }
        shelves[s].takeClaim(said);
        return said.kind;
    }

    // ---- proofs ----

    public int proof(int firm, int subject, int s) {
        if (!isFirm(firm) || !isShelf(s)) {
            return refused(NOBODY);
        }
        int lack = lackOfRow(s);
        if (lack != FINE) {
            return refused(lack);
        }
        if (!isSubject(subject)) {
            return refused(WRONG);
        }
        if (proofs.all.size() >= PROOFS_MOST) {
            return refused(ROOM);
        }
        proofs.all.add(new Proof(firm, subject, now, shelves[s].given()));
        return proofs.all.size() - 1;
    }

    public long results(int firm, int subject, int k, int what) {
        if (!isFirm(firm) || !isSubject(subject) || what < 0 || what > 1) {
            return NO_RESULTS;
        }
        return what == 0 ? proofs.countOf(firm, subject, k) : proofs.sumOf(firm, subject, k);
    }

    public int measure(int what, int n) {
        if (what < 0 || what > 1 || n < 1 || n > 100) {
            return refused(WRONG);
        }
        int before = what == 0 ? proofs.share : proofs.tenth;
        if (what == 0) {
            proofs.share = n;
        } else {
            proofs.tenth = n;
        }
        return before;
    }

    // ---- rules ----

    public int rule(int s, int from) {
        int lack = lackOfRow(s);
        if (lack != FINE) {
            return refused(lack);
        }
        if (!isDay(from)) {
            return refused(WRONG);
        }
        latestFault = reader.faultOf(shelves[s]);
        if (latestFault != NONE) {
            return refused(WRONG);
        }
        if (rules.size() >= RULES_MOST) {
            return refused(ROOM);
        }
        rules.add(new Rule(reader.codeRead(), new Span(from, now)));
        return rules.size() - 1;
    }

    public int fault() {
        return latestFault;
    }

    public int strike(int rule) {
        if (rule < 0 || rule >= rules.size()) {
            return refused(NOBODY);
        }
        return endedNow(rules.get(rule).span);
    }

    public int bars(int advert, int i, int a, int k) {
        Advert ad = advertOf(advert);
        Phrase said = claimOf(ad, i, a, k);
        if (ad == null || said == null) {
            return NONE;
        }
        tellFacts(ad, said, a, k);
        return barringRule(rulesInForce(a, k));
    }

    // ---- the panel and its rulings ----

    public int seat(int kin) {
        if (kin >>> FIRMS != 0) {
            return refused(NOBODY);
        }
        if (panel.seats >= SEATS_MOST) {
            return refused(ROOM);
        }
        return panel.addSeat(kin);
    }

    public int decide(int advert, int i, int bar, int not) {
        Advert ad = advertOf(advert);
        Phrase said = claimNow(ad, i);
        if (ad == null || said == null || !panel.areSeats(bar | not)) {
            return refused(NOBODY);
        }
        int count = panel.countOf(bar | not, ad.firm);
        if ((bar & not) != 0 || count < COUNT_LEAST) {
            return refused(WRONG);
        }
        if (panel.rulings.size() >= RULINGS_MOST) {
            return refused(ROOM);
        }
        Ruling made = new Ruling(ad, said, now, bar, not);
        made.counted = count;
        made.isBarring = panel.wouldBar(made);
        made.wasAgain = panel.isSaidAgain(ad.firm, said, now, now);
        made.bound = panel.bindingOn(ad.medium, said);
        panel.rulings.add(made);
        return panel.rulings.size() - 1;
    }

    public int ruling(int ruling, int what) {
        Ruling one = panel.rulingOf(ruling);
        if (one == null) {
            return NONE;
        }
        switch (what) {
            case 0:
                return one.firm;
            case 1:
                return one.medium;
            case 2:
                return one.kind;
            case 3:
                return one.subject;
            case 4:
                return one.number;
            case 5:
                return one.day;
            case 6:
                return bit(one.isBarring);
            case 7:
                return bit(one.wasAgain);
            case 8:
                return one.bound;
            case 9:
                return one.state;
            case 10:
                return one.counted;
            default:
                return NONE;
        }
    }

    public int kin(int seat, int firm) {
        if (seat < 0 || seat >= panel.seats || !isFirm(firm)) {
            return refused(NOBODY);
        }
        if (panel.isKin(seat, firm)) {
            return refused(WRONG);
        }
        return panel.addKin(seat, firm);
    }

    public int like(int advert, int c, int i) {
        Phrase said = claimNow(advertOf(advert), c);
        if (said == null || i < 0) {
            return NONE;
        }
        return panel.likeAt(said, i);
    }

    public int apart(int ruling, int advert, int c) {
        Ruling one = panel.rulingOf(ruling);
        Advert ad = advertOf(advert);
        Phrase said = claimNow(ad, c);
        if (one == null || ad == null || said == null) {
            return NONE;
        }
        return bit(one.kind != said.kind)
            | bit(one.subject != said.subject) << 1
            | bit(Math.abs(one.number - said.number) > NUMBERS_APART) << 2
            | bit(one.medium != ad.medium) << 3
            | bit(one.firm != ad.firm) << 4;
    }

    public int binding(int advert, int c) {
        Advert ad = advertOf(advert);
        Phrase said = claimNow(ad, c);
        if (ad == null || said == null) {
            return NONE;
        }
        return panel.bindingOn(ad.medium, said);
    }

    public int clash(int advert, int c) {
        Advert ad = advertOf(advert);
        Phrase said = claimNow(ad, c);
        if (ad == null || said == null) {
            return NONE;
        }
        return panel.likeSaying(true, ad.medium, said) * panel.likeSaying(false, ad.medium, said);
    }

    public int appeal(int ruling, boolean is) {
        Ruling one = panel.rulingOf(ruling);
        if (one == null) {
            return refused(NOBODY);
        }
        if (one.state != STANDS || now > one.day + APPEAL_DAYS || one.wasAppealed) {
            return refused(WRONG);
        }
        one.wasAppealed = true;
        return is ? panel.undoFrom(ruling) : 0;
    }

    public int step(int firm) {
        return isFirm(firm) ? panel.stepOf(firm, now) : NONE;
    }

    // ---- the least change ----

    public int least(int advert) {
        Advert ad = advertOf(advert);
        if (ad == null) {
            return refused(NOBODY);
        }
        if (ad.words.length > LEAST_WORDS_MOST) {
            return refused(ROOM);
        }
        int telling = tellingPhrases(now, now);
        latestSet = leastStruck(ad, telling, barredPhrases(ad, telling, rulesInForce(now, now)));
        return Integer.bitCount(latestSet);
    }

    public int leastSet() {
        return latestSet;
    }

    public int judge(int advert, int s) {
        Advert ad = advertOf(advert);
        if (ad == null) {
            return refused(NOBODY);
        }
        int lack = lackOfRow(s);
        if (lack != FINE) {
            return refused(lack);
        }
        int struck = 0;
        for (int i = 0; i < shelves[s].size; i++) {
            int place = shelves[s].intAt(i);
            if (place < 0 || place >= ad.words.length) {
                return refused(WRONG);
            }
            struck |= 1 << place;
        }
        int telling = tellingPhrases(now, now);
        int barred = barredPhrases(ad, telling, rulesInForce(now, now));
        return bit(standsWithout(ad, struck, telling, barred));
    }

    public int beside(int rules) {
        if (rules >>> this.rules.size() != 0) {
            return NONE;
        }
        int telling = tellingPhrases(now, now);
        int count = 0;
        for (int n = 0; n < adverts.size(); n++) {
            Advert ad = adverts.get(n);
            int barred = barredPhrases(ad, telling, rules);
            reading.read(phrases, telling, 0, ad.words, ad.words.length);
            count += reading.countIn(barred);
        }
        return count;
    }

    // ---- papers, and how it stands ----

    public int stop(int paper, int advert, boolean did) {
        Advert ad = advertOf(advert);
        if (ad == null || !isPaper(paper)) {
            return refused(NOBODY);
        }
        boolean wasAsked = ad.askedOn[paper] != NONE;
        if (!did) {
            if (wasAsked) {
                return refused(WRONG);
            }
            ad.askedOn[paper] = now;
            return 1;
        }
        if (!wasAsked || ad.stoppedOn[paper] != NONE) {
            return refused(WRONG);
        }
        ad.stoppedOn[paper] = now;
        return 2;
    }

    public int stopped(int paper, int advert, boolean did) {
        Advert ad = advertOf(advert);
        if (ad == null || !isPaper(paper)) {
            return NONE;
        }
        return did ? ad.stoppedOn[paper] : ad.askedOn[paper];
    }

    public int status(int what) {
        int refusal = what - 11;
        if (refusal >= 0 && refusal < REFUSALS) {
            return refusals[refusal];
        }
        switch (what) {
            case 0:
                return adverts.size();
            case 1:
                return phrases.size();
            case 2:
                return proofs.all.size();
            case 3:
                return rules.size();
            case 4:
                return panel.seats;
            case 5:
                return panel.rulings.size();
            case 6:
                return panel.rulingsIn(STANDS);
            case 7:
                return panel.standingBars();
            case 8:
                return panel.rulingsIn(VOID);
            case 9:
                return panel.rulingsIn(UNDONE);
            case 10:
                return now;
            default:
                return NONE;
        }
    }

    // ---- what the calls share ----

    private int refused(int why) {
        int at = -1 - why;
        if (at >= 0 && at < REFUSALS) {
            refusals[at]++;
        }
        return why;
    }

    private static int bit(boolean is) {
        return is ? 1 : 0;
    }

    private static boolean isShelf(int s) {
        return s >= 0 && s < SHELVES;
    }

    private static boolean isFirm(int firm) {
        return firm >= 0 && firm < FIRMS;
    }

    private static boolean isKind(int kind) {
        return kind >= 0 && kind < KINDS;
    }

    private static boolean isSubject(int subject) {
        return subject >= 0 && subject < SUBJECTS;
    }

    private static boolean isDay(int day) {
        return day >= 0 && day <= LAST_DAY;
    }

    private static boolean isPaper(int paper) {
        return paper >= 0 && paper < PAPERS;
    }

    /** Why SHELF s serves for no row: a refusal, or FINE. */
    private int lackOfRow(int s) {
        if (!isShelf(s)) {
            return NOBODY;
        }
        if (shelves[s].claim != null) {
            return OTHER;
        }
        return shelves[s].isRow ? FINE : NOTHING;
    }

    private Advert advertOf(int number) {
        return number >= 0 && number < adverts.size() ? adverts.get(number) : null;
    }

    private int endedNow(Span span) {
        if (span.struck != NONE) {
            return refused(WRONG);
        }
        span.struck = now;
        return 1;
    }

    private void read(Advert ad, int a, int k) {
        reading.read(phrases, tellingPhrases(a, k), 0, ad.words, ad.words.length);
    }

    /** The phrase by which claim i was read: it has all that the claim says; null if there is none. */
    private Phrase claimOf(Advert ad, int i, int a, int k) {
        if (ad == null || a < 0 || k < 0) {
            return null;
        }
        read(ad, a, k);
        return reading.phraseOf(i);
    }

    private Phrase claimNow(Advert ad, int i) {
        return claimOf(ad, i, now, now);
    }

    /** Bits of the phrases that make claims: those in force but LEFT ones. */
    private int tellingPhrases(int a, int k) {
        int telling = 0;
        for (int q = 0; q < phrases.size(); q++) {
            Phrase phrase = phrases.get(q);
            if (phrase.kind != KIND_LEFT && phrase.span.isInForce(a, k)) {
                telling |= 1 << q;
            }
        }
        return telling;
    }

    private int rulesInForce(int a, int k) {
        int inForce = 0;
        for (int r = 0; r < rules.size(); r++) {
            if (rules.get(r).span.isInForce(a, k)) {
                inForce |= 1 << r;
            }
        }
        return inForce;
    }

    private boolean isTakenBack(Advert ad, Phrase said, int a, int k) {
        for (int q = 0; q < phrases.size(); q++) {
            Phrase back = phrases.get(q);
            if (back.kind == KIND_LEFT && back.subject == said.subject
                && back.span.isInForce(a, k) && back.isIn(ad.print)) {
                return true;
            }
        }
        return false;
    }

    /** In the order of FIELDS. */
    private void tellFacts(Advert ad, Phrase said, int a, int k) {
        facts[0] = said.kind;
        facts[1] = said.number;
        facts[2] = said.subject;
        facts[3] = ad.medium;
        facts[4] = bit(proofs.bearOut(ad.firm, said, k));
        facts[5] = ad.childrenOf100();
        facts[6] = bit(isTakenBack(ad, said, a, k));
        facts[7] = bit(panel.isSaidAgain(ad.firm, said, a, k));
        facts[8] = ad.size;
        facts[9] = a / YEAR;
    }

    /** The least rule of a set (bits) that holds for the claim whose facts were told last, or NONE. */
    private int barringRule(int set) {
        for (int r = 0; r < rules.size(); r++) {
            if ((set >>> r & 1) == 1 && rules.get(r).isTrueOf(facts)) {
                return r;
            }
        }
        return NONE;
    }

    /**
     * Bits of the phrases whose claims in an advert are barred now by rules of a set: nothing that
     * a rule asks hangs on a claim's place, so one look at a phrase serves for all its claims.
     */
    private int barredPhrases(Advert ad, int telling, int set) {
        int barred = 0;
        for (int q = 0; q < phrases.size(); q++) {
            if ((telling >>> q & 1) == 1) {
                tellFacts(ad, phrases.get(q), now, now);
                barred |= bit(barringRule(set) != NONE) << q;
            }
        }
        return barred;
    }

    private int leastStruck(Advert ad, int telling, int barred) {
        int places = ad.words.length;
        int all = (1 << places) - 1;
        for (int size = 0; size < places; size++) {
            for (int set = 0; set < all; set++) {
                if (Integer.bitCount(set) == size && standsWithout(ad, set, telling, barred)) {
                    return set;
                }
            }
        }
        return all;
    }

    private boolean standsWithout(Advert ad, int struck, int telling, int barred) {
        int length = 0;
        for (int place = 0; place < ad.words.length && length < WORDS_MOST; place++) {
            if ((struck >>> place & 1) == 0) {
                wordsLeft[length] = ad.words[place];
                length++;
            }
        }
        return !reading.read(phrases, telling, barred, wordsLeft, length);
    }

    /** Nothing, a row (isRow) or a claim (not null). */
    private static final class Shelf {
        final long[] cells = new long[ROW_MOST];
        boolean isRow = false;
        int sort = 0;
        int size = 0;
        Phrase claim = null;

        void takeRow(int sort, int size) {
            isRow = true;
            claim = null;
            this.sort = sort;
            this.size = size;
            for (int i = 0; i < ROW_MOST; i++) {
                cells[i] = 0;
            }
        }

        void takeClaim(Phrase said) {
            isRow = false;
            claim = said;
        }

        void takeNothing() {
            isRow = false;
            claim = null;
        }

        /** The lowest bits of v that a cell of this sort keeps. */
        long cut(long v) {
            int spare = 64 - (8 << sort);
            return v << spare >> spare;
        }

        int intAt(int i) {
            return i >= 0 && i < ROW_MOST ? (int) cells[i] : 0;
        }

        /** A least long would count as the int 0: so it is the whole cell that tells. */
        boolean isMissing(int i) {
            return i >= 0 && i < ROW_MOST && cells[i] == -1L << (8 << sort) - 1;
        }

        int[] asInts() {
            int[] all = new int[size];
            for (int i = 0; i < size; i++) {
                all[i] = intAt(i);
            }
            return all;
        }

        /** The elements that are not missing. */
        int[] given() {
            int count = 0;
            for (int i = 0; i < size; i++) {
                count += isMissing(i) ? 0 : 1;
            }
            int[] all = new int[count];
            int next = 0;
            for (int i = 0; i < size; i++) {
                if (!isMissing(i) && next < count) {
                    all[next] = intAt(i);
                    next++;
                }
            }
            return all;
        }
    }

    /** When something is in force, and when that is known. */
    private static final class Span {
        final int from;
        final int told;
        int struck = NONE;

        Span(int from, int told) {
            this.from = from;
            this.told = told;
        }

        boolean isInForce(int a, int k) {
            boolean isOver = struck != NONE && struck <= a && struck <= k;
            return from <= a && told <= k && !isOver;
        }
    }

    /** A phrase of the code; it stands for the claims that are read by it, too. */
    private static final class Phrase {
        final int index;
        final int[] words;
        final int kind;
        final int subject;
        final int number;
        final Span span;

        Phrase(int index, int[] words, int kind, int is, Span span) {
            this.index = index;
            this.words = words;
            this.kind = kind;
            this.subject = is / NUMBERS;
            this.number = is % NUMBERS;
            this.span = span;
        }

        boolean isAt(int place, int[] text, int length) {
            if (place < 0 || length > text.length || words.length > length - place) {
                return false;
            }
            for (int i = 0; i < words.length; i++) {
                if (words[i] != text[place + i]) {
                    return false;
                }
            }
            return true;
        }

        boolean isIn(int[] text) {
            for (int place = 0; place < text.length; place++) {
                if (isAt(place, text, text.length)) {
                    return true;
                }
            }
            return false;
        }

        boolean isOf(int wanted) {
            return wanted == kind || wanted == KIND_CLAIM || wanted == KIND_NUMBER && kind == KIND_UPTO;
        }

        int takenFor(int wanted) {
            switch (wanted) {
                case KIND_CLAIM:
                    return subject;
                case KIND_NUMBER:
                    return number;
                case KIND_LIKENESS:
                    return number % FIRMS;
                case KIND_UPTO:
                    return NUMBERS + number;
                default:
                    return 0;
            }
        }
    }

    /** The claims that were read last; made once and used for every reading. */
    private static final class Reading {
        private final Phrase[] found = new Phrase[CLAIMS_MOST];
        private final int[] places = new int[CLAIMS_MOST];
        int size = 0;

        /** Reads words by the telling phrases (bits), up to the first claim of those to stop at: true if there is one. */
        boolean read(ArrayList<Phrase> code, int telling, int stopAt, int[] words, int length) {
            size = 0;
            for (int place = 0; place < length; place++) {
                for (int q = 0; q < code.size(); q++) {
                    if ((telling >>> q & 1) == 0 || !code.get(q).isAt(place, words, length)) {
                        continue;
                    }
                    if (size >= CLAIMS_MOST) {
                        return false;
                    }
                    found[size] = code.get(q);
                    places[size] = place;
                    size++;
                    if ((stopAt >>> q & 1) == 1) {
                        return true;
                    }
                }
            }
            return false;
        }

        Phrase phraseOf(int i) {
            return i >= 0 && i < size ? found[i] : null;
        }

        int placeOf(int i) {
            return i >= 0 && i < size ? places[i] : NONE;
        }

        /** How many claims are of phrases of a set (bits). */
        int countIn(int set) {
            int count = 0;
            for (int i = 0; i < size; i++) {
                Phrase one = found[i];
                if (one != null && (set >>> one.index & 1) == 1) {
                    count++;
                }
            }
            return count;
        }
    }

    private static final class Advert {
        final int firm;
        final int medium;
        final int[] words;
        final int day;
        int[] print = new int[0];
        int size = 0;
        int children = 0;
        int others = 0;
        final int[] askedOn = new int[PAPERS];
        final int[] stoppedOn = new int[PAPERS];

        Advert(int firm, int medium, int[] words, int day) {
            this.firm = firm;
            this.medium = medium;
            this.words = words;
            this.day = day;
            for (int paper = 0; paper < PAPERS; paper++) {
                askedOn[paper] = NONE;
                stoppedOn[paper] = NONE;
            }
        }

        int childrenOf100() {
            int all = children + others;
            return all > 0 ? children * 100 / all : 0;
        }
    }

    private static final class Proof {
        final int firm;
        final int subject;
        final int day;
        final int[] given;

        Proof(int firm, int subject, int day, int[] given) {
            this.firm = firm;
            this.subject = subject;
            this.day = day;
            this.given = given;
        }

        boolean isOn(int wantedFirm, int wantedSubject, int k) {
            return firm == wantedFirm && subject == wantedSubject && day <= k;
        }
    }

    private static final class Proofs {
        final ArrayList<Proof> all = new ArrayList<>();
        int share = 50;
        int tenth = 10;

        boolean bearOut(int firm, Phrase said, int k) {
            switch (said.kind) {
                case KIND_CLAIM:
                    return isGiven(firm, said.subject, k);
                case KIND_NUMBER:
                    return areEnough(share, firm, said, k);
                case KIND_UPTO:
                    return areEnough(tenth, firm, said, k);
                case KIND_LIKENESS:
                    return isAhead(firm, said.number % FIRMS, said.subject, k);
                default:
                    return true;
            }
        }

        int countOf(int firm, int subject, int k) {
            int count = 0;
            for (int n = 0; n < all.size(); n++) {
                Proof proof = all.get(n);
                count += proof.isOn(firm, subject, k) ? proof.given.length : 0;
            }
            return count;
        }

        long sumOf(int firm, int subject, int k) {
            long sum = 0;
            for (int n = 0; n < all.size(); n++) {
                Proof proof = all.get(n);
                if (proof.isOn(firm, subject, k)) {
                    for (int i = 0; i < proof.given.length; i++) {
                        sum += proof.given[i];
                    }
                }
            }
            return sum;
        }

        private boolean isGiven(int firm, int subject, int k) {
            for (int n = 0; n < all.size(); n++) {
                if (all.get(n).isOn(firm, subject, k)) {
                    return true;
                }
            }
            return false;
        }

        private boolean areEnough(int of100, int firm, Phrase said, int k) {
            int count = 0;
            int noLess = 0;
            for (int n = 0; n < all.size(); n++) {
                Proof proof = all.get(n);
                if (proof.isOn(firm, said.subject, k)) {
                    count += proof.given.length;
                    for (int i = 0; i < proof.given.length; i++) {
                        noLess += proof.given[i] >= said.number ? 1 : 0;
                    }
                }
            }
            return count > 0 && noLess * 100 >= of100 * count;
        }

        /** Means are put against each other crosswise, as whole numbers: no fraction is cut. */
        private boolean isAhead(int firm, int other, int subject, int k) {
            long count = countOf(firm, subject, k);
            long otherCount = countOf(other, subject, k);
            return count > 0 && otherCount > 0
                && sumOf(firm, subject, k) * otherCount > sumOf(other, subject, k) * count;
        }
    }

    /**
     * A rule as the reader wrote it down, each sign behind what it joins: a test as its sign and
     * two sides, then ! & | of what was told before. A side is a number, or -1 less a field's place.
     */
    private static final class Rule {
        private final int[] code;
        final Span span;

        Rule(int[] code, Span span) {
            this.code = code;
            this.span = span;
        }

        /** The bits of one long hold what waits to be joined: 60 letters never leave 64 waiting. */
        boolean isTrueOf(int[] facts) {
            long waiting = 0;
            for (int i = 0; i < code.length; i++) {
                int sign = code[i];
                long last = waiting & 1;
                if (sign == '!') {
                    waiting ^= 1;
                } else if (sign == '&') {
                    waiting = waiting >>> 1 & (~1L | last);
                } else if (sign == '|') {
                    waiting = waiting >>> 1 | last;
                } else {
                    waiting = waiting << 1 | bit(isMet(sign, sideAt(i + 1, facts), sideAt(i + 2, facts)));
                    i += 2;
                }
            }
            return (waiting & 1) == 1;
        }

        private static boolean isMet(int sign, int left, int right) {
            if (sign == '<') {
                return left < right;
            }
            return sign == '>' ? left > right : left == right;
        }

        private int sideAt(int at, int[] facts) {
            int side = at < code.length ? code[at] : 0;
            int field = -1 - side;
            return field >= 0 && field < facts.length ? facts[field] : side;
        }
    }

    /** Reads a row as a rule: it never goes back, so where it stops is the first that can't stand. */
    private static final class RuleReader {
        /** No letter of a rule, so an element of that number can't stand either. */
        private static final int END = -1;

        private final int[] text = new int[ROW_MOST];
        private int length = 0;
        private int at = 0;
        private int letter = END;
        private final int[] code = new int[ROW_MOST];
        private int codeSize = 0;
        private int side = 0;

        /** The first place at which an element can't stand; NONE if the row is a rule. */
        int faultOf(Shelf row) {
            length = Math.min(row.size, ROW_MOST);
            for (int i = 0; i < length; i++) {
                text[i] = row.intAt(i);
            }
            at = 0;
            letter = length > 0 ? text[0] : END;
            codeSize = 0;
            boolean isRule = take('b') && take(':') && readExpr(0) && at == length;
            return isRule ? NONE : at;
        }

        int[] codeRead() {
            int[] copy = new int[codeSize];
            for (int i = 0; i < copy.length; i++) {
                copy[i] = code[i];
            }
            return copy;
        }

        private boolean take(int wanted) {
            if (letter != wanted || at >= length) {
                return false;
            }
            at++;
            letter = at < length ? text[at] : END;
            return true;
        }

        private void write(int sign) {
            if (codeSize < ROW_MOST) {
                code[codeSize] = sign;
                codeSize++;
            }
        }

        private boolean readExpr(int depth) {
            if (!readAndPart(depth)) {
                return false;
            }
            for (int more = 0; more < ROW_MOST && take('|'); more++) {
                if (!readAndPart(depth)) {
                    return false;
                }
                write('|');
            }
            return true;
        }

        private boolean readAndPart(int depth) {
            if (!readPart(depth)) {
                return false;
            }
            for (int more = 0; more < ROW_MOST && take('&'); more++) {
                if (!readPart(depth)) {
                    return false;
                }
                write('&');
            }
            return true;
        }

        /** The depth counts the ( and ! around a part. */
        private boolean readPart(int depth) {
            boolean mayNest = depth < NESTED_MOST;
            if (mayNest && take('!')) {
                if (!readPart(depth + 1)) {
                    return false;
                }
                write('!');
                return true;
            }
            if (mayNest && take('(')) {
                return readExpr(depth + 1) && take(')');
            }
            return readTest();
        }

        private boolean readTest() {
            if (!readSide()) {
                return false;
            }
            int left = side;
            int sign = letter;
            if (!take('<') && !take('>') && !take('=')) {
                return false;
            }
            if (!readSide()) {
                return false;
            }
            write(sign);
            write(left);
            write(side);
            return true;
        }

        private boolean readSide() {
            for (int field = 0; field < FIELDS.length(); field++) {
                if (take(FIELDS.charAt(field))) {
                    side = -1 - field;
                    return true;
                }
            }
            if (letter < '0' || letter > '9') {
                return false;
            }
            side = letter - '0';
            take(letter);
            // behind a 0 ahead, as behind four digits, another digit can't stand
            for (int digits = 1; digits < DIGITS_MOST && side > 0 && letter >= '0' && letter <= '9'; digits++) {
                side = side * 10 + letter - '0';
                take(letter);
            }
            return true;
        }
    }

    private static final class Ruling {
        final int firm;
        final int medium;
        final int kind;
        final int subject;
        final int number;
        final int day;
        final int votesToBar;
        final int votesNotTo;
        int counted = 0;
        boolean isBarring = false;
        boolean wasAgain = false;
        boolean wasAppealed = false;
        int bound = NONE;
        int state = STANDS;

        Ruling(Advert ad, Phrase said, int day, int votesToBar, int votesNotTo) {
            this.firm = ad.firm;
            this.medium = ad.medium;
            this.kind = said.kind;
            this.subject = said.subject;
            this.number = said.number;
            this.day = day;
            this.votesToBar = votesToBar;
            this.votesNotTo = votesNotTo;
        }

        boolean isLike(Phrase said) {
            return state == STANDS && kind == said.kind && subject == said.subject
                && Math.abs(number - said.number) <= NUMBERS_APART;
        }

        boolean standsAndBars() {
            return state == STANDS && isBarring;
        }
    }

    /** The seats with their kin, and the rulings that they made. */
    private static final class Panel {
        private final int[] kinOf = new int[SEATS_MOST];
        int seats = 0;
        final ArrayList<Ruling> rulings = new ArrayList<>();

        int addSeat(int firms) {
            if (seats >= SEATS_MOST) {
                return NONE;
            }
            kinOf[seats] = firms;
            seats++;
            return seats - 1;
        }

        boolean areSeats(int set) {
            return set >>> seats == 0;
        }

        boolean isKin(int one, int firm) {
            return one >= 0 && one < seats && (kinOf[one] >>> firm & 1) == 1;
        }

        /** How many of votes (bits) count where it is about a firm. */
        int countOf(int votes, int firm) {
            int count = 0;
            for (int one = 0; one < seats; one++) {
                if ((votes >>> one & 1) == 1 && !isKin(one, firm)) {
                    count++;
                }
            }
            return count;
        }

        boolean wouldBar(Ruling one) {
            return countOf(one.votesToBar, one.firm) > countOf(one.votesNotTo, one.firm);
        }

        /** How many rulings that makes void. */
        int addKin(int one, int firm) {
            if (one < 0 || one >= seats) {
                return 0;
            }
            kinOf[one] |= 1 << firm;
            int made = 0;
            for (int n = 0; n < rulings.size(); n++) {
                Ruling ruling = rulings.get(n);
                int votes = ruling.votesToBar | ruling.votesNotTo;
                boolean isTouched = ruling.state == STANDS && ruling.firm == firm && (votes >>> one & 1) == 1;
                if (isTouched && (countOf(votes, firm) < COUNT_LEAST || wouldBar(ruling) != ruling.isBarring)) {
                    ruling.state = VOID;
                    made++;
                }
            }
            return made;
        }

        Ruling rulingOf(int number) {
            return number >= 0 && number < rulings.size() ? rulings.get(number) : null;
        }

        boolean isSaidAgain(int firm, Phrase said, int a, int k) {
            for (int n = 0; n < rulings.size(); n++) {
                Ruling one = rulings.get(n);
                if (one.standsAndBars() && one.firm == firm && one.kind == said.kind
                    && one.subject == said.subject && one.number <= said.number
                    && one.day <= a && one.day <= k) {
                    return true;
                }
            }
            return false;
        }

        int likeAt(Phrase said, int i) {
            int before = 0;
            for (int n = 0; n < rulings.size(); n++) {
                if (rulings.get(n).isLike(said)) {
                    if (before == i) {
                        return n;
                    }
                    before++;
                }
            }
            return NONE;
        }

        int bindingOn(int medium, Phrase said) {
            for (int n = 0; n < rulings.size(); n++) {
                if (rulings.get(n).medium == medium && rulings.get(n).isLike(said)) {
                    return n;
                }
            }
            return NONE;
        }

        int likeSaying(boolean bars, int medium, Phrase said) {
            int count = 0;
            for (int n = 0; n < rulings.size(); n++) {
                Ruling one = rulings.get(n);
                if (one.medium == medium && one.isBarring == bars && one.isLike(said)) {
                    count++;
                }
            }
            return count;
        }

        /**
         * A binding ruling is always an earlier one, and none that stands was bound by one undone
         * in an earlier call: so one walk in order finds all that hang on this one.
         */
        int undoFrom(int number) {
            int made = 0;
            for (int n = Math.max(number, 0); n < rulings.size(); n++) {
                Ruling one = rulings.get(n);
                Ruling before = rulingOf(one.bound);
                boolean hangs = n == number || before != null && before.state == UNDONE;
                if (one.state == STANDS && hangs) {
                    one.state = UNDONE;
                    made++;
                }
            }
            return made;
        }

        int stepOf(int firm, int now) {
            int height = 0;
            int day = 0;
            for (int n = 0; n < rulings.size(); n++) {
                Ruling one = rulings.get(n);
                if (one.firm == firm && one.standsAndBars()) {
                    height = Math.max(height - (one.day - day) / YEAR, 0);
                    height = Math.min(height + (one.wasAgain ? 2 : 1), STEP_MOST);
                    day = one.day;
                }
            }
            return Math.max(height - (now - day) / YEAR, 0);
        }

        int rulingsIn(int state) {
            int count = 0;
            for (int n = 0; n < rulings.size(); n++) {
                count += rulings.get(n).state == state ? 1 : 0;
            }
            return count;
        }

        int standingBars() {
            int count = 0;
            for (int n = 0; n < rulings.size(); n++) {
                count += rulings.get(n).standsAndBars() ? 1 : 0;
            }
            return count;
        }
    }
}
