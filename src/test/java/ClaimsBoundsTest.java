/** The bounds of PHRASES and CLAIMS: T2, promises 13 to 17. What is refused stands in RefusalsTest, too. */
public final class ClaimsBoundsTest {
    private static final int MOST = Integer.MAX_VALUE;

    private static final Check c = new Check("ClaimsBoundsTest");

    public static void main(String[] args) {
        phraseNumbers();
        phraseFull();
        phraseWords();
        phraseWordsAsThen();
        phraseWordsAsInts();
        kinds();
        subjectsAndNumbers();
        fromDays();
        fromBound();
        toldBound();
        toldAheadOfFrom();
        struckBound();
        struckOnItsDay();
        struckAheadOfFrom();
        unphraseTwice();
        unphraseNumbers();
        claimsDays();
        claimNow();
        readToTheEnd();
        readOneBehindTheOther();
        readInOrder();
        readButLeft();
        readNone();
        first24();
        first24ByNumbers();
        first24Everywhere();
        readNowEverywhere();
        struckOnTheLastDay();
        takenBackPlaces();
        takenBackWhole();
        takenBackSubject();
        takenBackInForce();
        takenBackNow();
        takenBackNoWords();
        claimWhats();
        keepEnds();
        keepNone();
        keepNow();
        c.end();
    }

    private static void phraseNumbers() {
        c.sentence("T2", "PHRASES have numbers, from 0 on, 20 at most");
        AdvertCouncil x = new AdvertCouncil();
        x.row(0, 0, 1);
        for (int n = 0; n < 20; n++) {
            c.due("none yet", x.unphrase(n), -1);
            c.due("its number", x.phrase(0, 0, 0, 0), n);
        }
        c.due("a 21st", x.phrase(0, 0, 0, 0), -7);
        c.due("none of its number", x.unphrase(20), -1);
        c.due("as many", x.status(1), 20);
        c.due("the last is STRUCK", x.unphrase(19), 1);
        c.due("no room by that", x.phrase(0, 0, 0, 0), -7);
    }

    private static void phraseFull() {
        c.sentence("13", "-7");
        AdvertCouncil x = new AdvertCouncil();
        Check.advert(x, 0, 0, 1);
        Check.row(x, 0, 0, 1);
        for (int n = 0; n < 20; n++) {
            x.phrase(0, n == 19 ? 1 : 3, 2005, 0);
        }
        for (int n = 1; n <= 3; n++) {
            c.due("a 21st", x.phrase(0, 0, 15999, 0), -7);
            c.due("each counts", x.status(17), n);
        }
        c.due("one CLAIM", x.claims(0, 0, 0), 1);
        c.due("by the last PHRASE", x.claim(0, 0, 4), 19);
        c.due("of its KIND", x.claim(0, 0, 0), 1);
        c.due("of its NUMBER", x.claim(0, 0, 2), 5);
    }

    private static void phraseWords() {
        c.sentence("T2", "WORDS (a ROW of 1 to 6 elements ..)");
        AdvertCouncil x = new AdvertCouncil();
        int[] sizes = {0, 1, 6, 7, 8, 60};
        int told = 0;
        for (int size : sizes) {
            x.row(0, 0, size);
            boolean is = size >= 1 && size <= 6;
            c.due(size + " WORDS", x.phrase(0, 0, 1, 0), is ? told : -6);
            told += is ? 1 : 0;
            c.due("as many", x.status(1), told);
        }
        c.due("refused", x.status(16), 4);
        x.row(0, 0, 5);
        x.advert(0, 0, 0);
        c.due("five WORDS: the one of 1 alone", x.claims(0, 0, 0), 5);
        x.row(0, 0, 6);
        x.advert(0, 0, 0);
        c.due("six WORDS: the one of 6, too", x.claims(1, 0, 0), 7);
    }

    private static void phraseWordsAsThen() {
        c.sentence("T2", "WORDS (a ROW of 1 to 6 elements, as then)");
        AdvertCouncil x = new AdvertCouncil();
        Check.advert(x, 0, 0, 5, 6);
        Check.row(x, 0, 2, 5, 6);
        x.phrase(0, 0, 1, 0);
        x.set(0, 1, 7);
        c.due("behind a set", x.claims(0, 0, 0), 1);
        x.row(0, 2, 1);
        c.due("behind a row", x.claims(0, 0, 0), 1);
        x.keep(0, 0, 0);
        c.due("behind a CLAIM", x.claims(0, 0, 0), 1);
        x.keep(0, -1, 0);
        c.due("behind NOTHING", x.claims(0, 0, 0), 1);
    }

    private static void phraseWordsAsInts() {
        c.sentence("T1", "Everywhere elements count as ints (of longs the lowest 32 bits): a PHRASE's WORDS");
        AdvertCouncil x = new AdvertCouncil();
        Check.advert(x, 0, 0, -2, 300, Integer.MIN_VALUE, 0);
        long[][] rows = {{-2}, {254}, {-2, 300}, {(1L << 32) - 2, 300 + (9L << 40)}, {1L << 31, 1L << 33}, {1L << 63}};
        int[] sorts = {0, 0, 1, 3, 3, 3};
        int[] due = {1, 2, 3, 4, 5, 6};
        for (int n = 0; n < rows.length; n++) {
            Check.row(x, 0, sorts[n], rows[n]);
            c.due("phrase", x.phrase(0, 0, 1, 0), n);
            c.due("READ by " + (n + 1), x.claims(0, 0, 0), due[n]);
        }
    }

    private static void kinds() {
        c.sentence("T2", "KINDS of CLAIMS: 0 CLAIM .. 5 UPTO");
        AdvertCouncil x = new AdvertCouncil();
        x.row(0, 0, 1);
        c.due("KIND -1", x.phrase(0, -1, 1, 0), -1);
        for (int kind = 0; kind < 6; kind++) {
            c.due("KIND " + kind, x.phrase(0, kind, 1, 0), kind);
        }
        c.due("KIND 6", x.phrase(0, 6, 1, 0), -1);
        c.due("KIND 7", x.phrase(0, 7, 1, 0), -1);
        x.advert(0, 0, 0);
        int[] due = {0, 1, 2, 4, 5, -1};
        for (int i = 0; i < due.length; i++) {
            c.due("the KIND of CLAIM " + i, x.claim(0, i, 0), due[i]);
        }
    }

    private static void subjectsAndNumbers() {
        c.sentence("13", "for (1,000 SUBJECT and NUMBER); SUBJECT (0 to 15), NUMBER (0 to 999)");
        AdvertCouncil x = new AdvertCouncil();
        x.row(0, 0, 1);
        x.advert(0, 0, 0);
        int[] is = {0, 999, 1000, 1999, 15000, 15999};
        for (int n = 0; n < is.length; n++) {
            c.due("is " + is[n], x.phrase(0, 1, is[n], 0), n);
            c.due("its SUBJECT", x.claim(0, n, 1), is[n] / 1000);
            c.due("its NUMBER", x.claim(0, n, 2), is[n] % 1000);
        }
        int[] isNot = {-1, -1000, 16000, 16001, 99000, MOST, Integer.MIN_VALUE};
        for (int n : isNot) {
            c.due("is " + n, x.phrase(0, 1, n, 0), -6);
        }
        c.due("as many", x.status(1), is.length);
        c.due("refused", x.status(16), isNot.length);
    }

    private static void fromDays() {
        c.sentence("13", "DAY not 0 to 9,000");
        AdvertCouncil x = new AdvertCouncil();
        x.row(0, 0, 1);
        c.due("FROM -1", x.phrase(0, 0, 1, -1), -6);
        c.due("FROM 0", x.phrase(0, 0, 1, 0), 0);
        c.due("FROM 9,000", x.phrase(0, 0, 1, 9000), 1);
        c.due("FROM 9,001", x.phrase(0, 0, 1, 9001), -6);
        c.due("FROM far below", x.phrase(0, 0, 1, Integer.MIN_VALUE), -6);
        c.due("FROM far above", x.phrase(0, 0, 1, MOST), -6);
        c.due("as many", x.status(1), 2);
        x.advert(0, 0, 0);
        c.due("AS OF 8,999", x.claims(0, 8999, 0), 1);
        c.due("AS OF 9,000", x.claims(0, 9000, 0), 2);
    }

    /** A PHRASE FROM a DAY on, told on another. */
    private static AdvertCouncil told(int on, int from) {
        AdvertCouncil x = new AdvertCouncil();
        Check.daysOn(x, on);
        Check.phrase(x, 0, 1, 1, from, 1);
        Check.advert(x, 0, 0, 1);
        return x;
    }

    private static void fromBound() {
        c.sentence("T2", "IN FORCE AS OF a, KNOWN k: FROM is a or earlier");
        AdvertCouncil x = told(0, 50);
        c.due("the DAY ahead", x.claims(0, 49, 9000), 0);
        c.due("the DAY", x.claims(0, 50, 9000), 1);
        c.due("the DAY behind", x.claims(0, 51, 9000), 1);
        c.due("KNOWN ahead of it", x.claims(0, 50, 0), 1);
    }

    private static void toldBound() {
        c.sentence("T2", "IN FORCE AS OF a, KNOWN k: .. TOLD is k or earlier");
        AdvertCouncil x = told(50, 0);
        c.due("the DAY ahead", x.claims(0, 9000, 49), 0);
        c.due("the DAY", x.claims(0, 9000, 50), 1);
        c.due("the DAY behind", x.claims(0, 9000, 51), 1);
        c.due("AS OF ahead of it", x.claims(0, 0, 50), 1);
    }

    private static void toldAheadOfFrom() {
        c.sentence("T2", "FROM is a or earlier, TOLD is k or earlier");
        AdvertCouncil x = told(30, 60);
        c.due("neither", x.claims(0, 29, 29), 0);
        c.due("TOLD alone", x.claims(0, 59, 60), 0);
        c.due("FROM alone", x.claims(0, 60, 29), 0);
        c.due("both", x.claims(0, 60, 30), 1);
        c.due("the other way about", x.claims(0, 30, 60), 0);
    }

    private static void struckBound() {
        c.sentence("T2", "it wasn't STRUCK on a DAY that is both a and k or earlier");
        AdvertCouncil x = told(0, 0);
        x.days(70);
        x.unphrase(0);
        c.due("both the DAY ahead", x.claims(0, 69, 69), 1);
        c.due("a the DAY ahead", x.claims(0, 69, 70), 1);
        c.due("k the DAY ahead", x.claims(0, 70, 69), 1);
        c.due("both the DAY", x.claims(0, 70, 70), 0);
        c.due("a behind it", x.claims(0, 71, 70), 0);
        c.due("k behind it", x.claims(0, 70, 71), 0);
        c.due("a far behind, k ahead", x.claims(0, 9000, 69), 1);
        c.due("k far behind, a ahead", x.claims(0, 69, 9000), 1);
    }

    private static void struckOnItsDay() {
        c.sentence("T2", "TOLD on NOW; perhaps STRUCK: on the same NOW");
        AdvertCouncil x = told(70, 0);
        c.due("unphrase", x.unphrase(0), 1);
        c.due("as READ NOW", x.claims(0, 70, 70), 0);
        c.due("AS OF the DAY ahead", x.claims(0, 69, 70), 1);
        c.due("KNOWN the DAY ahead", x.claims(0, 70, 69), 0);
        AdvertCouncil first = told(0, 0);
        c.due("unphrase on the first DAY", first.unphrase(0), 1);
        c.due("never again", first.claims(0, 0, 0), 0);
        c.due("it was", first.unphrase(0), -6);
    }

    private static void struckAheadOfFrom() {
        c.sentence("T2", "STRUCK ahead of the DAY FROM which it would be");
        AdvertCouncil x = told(0, 60);
        x.days(30);
        x.unphrase(0);
        c.due("known before", x.claims(0, 60, 29), 1);
        c.due("known since", x.claims(0, 60, 30), 0);
        c.due("not yet", x.claims(0, 59, 29), 0);
    }

    private static void unphraseTwice() {
        c.sentence("14", "-6 it was.");
        AdvertCouncil x = told(0, 0);
        x.days(5);
        c.due("once", x.unphrase(0), 1);
        c.due("twice", x.unphrase(0), -6);
        x.days(5);
        c.due("later", x.unphrase(0), -6);
        c.due("the first DAY counts", x.claims(0, 5, 5), 0);
        c.due("the first DAY counts", x.claims(0, 4, 10), 1);
        c.due("refused", x.status(16), 2);
        c.due("it is one of the PHRASES", x.status(1), 1);
    }

    private static void unphraseNumbers() {
        c.sentence("14", "-1");
        AdvertCouncil x = told(0, 0);
        c.due("-1", x.unphrase(-1), -1);
        c.due("1", x.unphrase(1), -1);
        c.due("the greatest", x.unphrase(MOST), -1);
        c.due("the least", x.unphrase(Integer.MIN_VALUE), -1);
        c.due("behind it", x.claims(0, 0, 0), 1);
        c.due("another", Check.phrase(x, 0, 1, 1, 0, 1), 1);
        c.due("1", x.unphrase(1), 1);
        c.due("the first is IN FORCE", x.claim(0, 0, 4), 0);
    }

    private static void claimsDays() {
        c.sentence("15", "READ AS OF a, KNOWN k (0 on). NONE: no such one, a, k.");
        AdvertCouncil x = told(0, 0);
        c.due("0, 0", x.claims(0, 0, 0), 1);
        c.due("-1, 0", x.claims(0, -1, 0), -1);
        c.due("0, -1", x.claims(0, 0, -1), -1);
        c.due("-1, -1", x.claims(0, -1, -1), -1);
        c.due("the last DAY", x.claims(0, 9000, 9000), 1);
        c.due("ADVERT -1", x.claims(-1, 0, 0), -1);
        c.due("ADVERT 1", x.claims(1, 0, 0), -1);
        c.due("no refusals", x.status(11), 0);
    }

    private static void claimNow() {
        c.sentence("16", "Of CLAIM i as READ so NOW (AS OF, KNOWN)");
        AdvertCouncil x = told(0, 50);
        x.days(49);
        c.due("the DAY ahead", x.claim(0, 0, 0), -1);
        x.days(1);
        c.due("the DAY", x.claim(0, 0, 0), 0);
        x.days(10);
        x.unphrase(0);
        c.due("STRUCK", x.claim(0, 0, 0), -1);
        c.due("another", Check.phrase(x, 4, 1, 1, 60, 1), 1);
        c.due("TOLD NOW", x.claim(0, 0, 0), 4);
    }

    private static void readToTheEnd() {
        c.sentence("T2", "whose WORDS stand there one behind the other (all of them)");
        AdvertCouncil x = new AdvertCouncil();
        Check.phrase(x, 0, 1, 1, 0, 1, 2, 3);
        Check.advert(x, 0, 0, 1, 2, 3);
        Check.advert(x, 0, 0, 1, 2);
        Check.advert(x, 0, 0, 0, 1, 2, 3);
        Check.advert(x, 0, 0, 0, 0, 1, 2);
        Check.advert(x, 0, 0, 2, 3);
        Check.advert(x, 0, 0, 1, 2, 3, 3);
        int[] due = {1, 0, 1, 0, 0, 1};
        for (int n = 0; n < due.length; n++) {
            c.due("claims of " + n, x.claims(n, 0, 0), due[n]);
        }
        c.due("the last place", x.claim(2, 0, 3), 1);
        Check.phrase(x, 0, 1, 1, 0, 7);
        Check.advert(x, 0, 0, 0, 0, 0, 0, 0, 0, 0, 0, 0, 0, 0, 0, 0, 0, 0, 0, 0, 0, 0, 7);
        c.due("the 20th WORD", x.claim(6, 0, 3), 19);
        Check.advert(x, 0, 0, 7);
        c.due("the first of one", x.claim(7, 0, 3), 0);
    }

    private static void readOneBehindTheOther() {
        c.sentence("T2", "one behind the other");
        AdvertCouncil x = new AdvertCouncil();
        Check.phrase(x, 0, 1, 1, 0, 1, 2);
        Check.advert(x, 0, 0, 1, 0, 2);
        Check.advert(x, 0, 0, 2, 1);
        Check.advert(x, 0, 0, 1, 1, 2, 2);
        Check.advert(x, 0, 0, 1, 2, 1, 2);
        c.due("one between", x.claims(0, 0, 0), 0);
        c.due("the other ahead", x.claims(1, 0, 0), 0);
        c.due("among others", x.claims(2, 0, 0), 1);
        c.due("its place", x.claim(2, 0, 3), 1);
        c.due("twice", x.claims(3, 0, 0), 2);
        c.due("its second place", x.claim(3, 1, 3), 2);
        Check.phrase(x, 0, 1, 1, 0, 5, 5);
        Check.advert(x, 0, 0, 5, 5, 5);
        c.due("one over the other", x.claims(4, 0, 0), 2);
    }

    private static void readInOrder() {
        c.sentence("T2", "for each place .., in order, each PHRASE IN FORCE .., by numbers");
        AdvertCouncil x = new AdvertCouncil();
        Check.phrase(x, 0, 1, 1, 0, 2);
        Check.phrase(x, 0, 1, 1, 0, 1);
        Check.phrase(x, 0, 1, 1, 0, 1, 2);
        Check.phrase(x, 0, 1, 1, 0, 1);
        Check.advert(x, 0, 0, 1, 2);
        int[] phrases = {1, 2, 3, 0};
        int[] places = {0, 0, 0, 1};
        c.due("how many", x.claims(0, 0, 0), 4);
        for (int i = 0; i < 4; i++) {
            c.due("the PHRASE of CLAIM " + i, x.claim(0, i, 4), phrases[i]);
            c.due("the place of CLAIM " + i, x.claim(0, i, 3), places[i]);
        }
        x.unphrase(2);
        c.due("those IN FORCE", x.claim(0, 1, 4), 3);
    }

    private static void readButLeft() {
        c.sentence("T2", "each PHRASE IN FORCE but LEFT ones");
        AdvertCouncil x = new AdvertCouncil();
        for (int kind = 0; kind < 6; kind++) {
            Check.phrase(x, kind, 1, 1, 0, 1);
        }
        Check.advert(x, 0, 0, 1);
        c.due("five of six", x.claims(0, 0, 0), 5);
        c.due("none TAKEN BACK by WORDS", x.claim(0, 0, 5), 0);
        c.due("the one behind LEFT", x.claim(0, 3, 0), 4);
    }

    private static void readNone() {
        c.sentence("15", "How many CLAIMS: none");
        AdvertCouncil x = new AdvertCouncil();
        Check.advert(x, 0, 0, 1);
        c.due("no PHRASES", x.claims(0, 0, 0), 0);
        Check.phrase(x, 0, 1, 1, 0, 2);
        c.due("another WORD", x.claims(0, 0, 0), 0);
        Check.advert(x, 0, 0);
        c.due("no WORDS", x.claims(1, 0, 0), 0);
        c.due("no first CLAIM", x.claim(1, 0, 0), -1);
        c.due("no first CLAIM", x.keep(0, 1, 0), -1);
    }

    /** PHRASES of one word each, as many for word 1, one for word 2. */
    private static AdvertCouncil readBy(int many) {
        AdvertCouncil x = new AdvertCouncil();
        for (int n = 0; n < many; n++) {
            Check.phrase(x, 0, n % 16, n, 0, 1);
        }
        Check.phrase(x, 4, 9, 9, 0, 2);
        return x;
    }

    private static void first24() {
        c.sentence("T2", "The first 24 count.");
        AdvertCouncil x = readBy(8);
        Check.advert(x, 0, 0, 1, 1, 2);
        Check.advert(x, 0, 0, 1, 1, 2, 1);
        Check.advert(x, 0, 0, 1, 1, 1);
        Check.advert(x, 0, 0, 1, 1, 1, 2);
        Check.advert(x, 0, 0, 1, 2, 1, 1);
        Check.advert(x, 0, 0, 1, 1, 1, 1, 1, 1, 1, 1, 1, 1, 1, 1, 1, 1, 1, 1, 1, 1, 1, 1);
        int[] due = {17, 24, 24, 24, 24, 24};
        for (int n = 0; n < due.length; n++) {
            c.due("claims of " + n, x.claims(n, 0, 0), due[n]);
            c.due("the last", x.claim(n, due[n] - 1, 4) >= 0 ? 1 : 0, 1);
            c.due("none behind it", x.claim(n, due[n], 4), -1);
            c.due("none to keep behind it", x.keep(0, n, due[n]), -1);
        }
        c.due("the 24th of 25", x.claim(1, 23, 4), 6);
        c.due("the 24th of 24", x.claim(2, 23, 4), 7);
        c.due("its place", x.claim(5, 23, 3), 2);
        c.due("a 24th can be kept", x.keep(0, 5, 23), 0);
    }

    private static void first24ByNumbers() {
        c.sentence("T2", "The first 24 count: those of one place by numbers");
        AdvertCouncil x = readBy(19);
        Check.advert(x, 0, 0, 1, 1);
        c.due("38 are 24", x.claims(0, 0, 0), 24);
        c.due("the last of the first place", x.claim(0, 18, 4), 18);
        c.due("the first of the second", x.claim(0, 19, 4), 0);
        c.due("the 24th", x.claim(0, 23, 4), 4);
        Check.advert(x, 0, 0, 1, 2, 2, 2, 2, 2);
        c.due("just 24", x.claims(1, 0, 0), 24);
        c.due("the 24th's place", x.claim(1, 23, 3), 5);
        Check.advert(x, 0, 0, 1, 2, 2, 2, 2);
        c.due("just 23", x.claims(2, 0, 0), 23);
        c.due("no 24th", x.claim(2, 23, 3), -1);
    }

    private static void first24Everywhere() {
        c.sentence("T2", "The first 24 count: for each call that takes a CLAIM");
        AdvertCouncil x = readBy(8);
        Check.advert(x, 0, 0, 1, 1, 1, 1);
        Check.rule(x, 0, "b:k=0");
        for (int n = 0; n < 3; n++) {
            x.seat(0);
        }
        c.due("decide on the 24th", x.decide(0, 23, 7, 0), 0);
        c.due("decide on a 25th", x.decide(0, 24, 7, 0), -1);
        int[] is = {23, 24, -1};
        int[] due = {0, -1, -1};
        for (int n = 0; n < is.length; n++) {
            c.due("bars " + is[n], x.bars(0, is[n], 0, 0), due[n]);
            c.due("like " + is[n], x.like(0, is[n], 0), due[n]);
            c.due("apart " + is[n], x.apart(0, 0, is[n]), due[n]);
            c.due("binding " + is[n], x.binding(0, is[n]), due[n]);
            c.due("clash " + is[n], x.clash(0, is[n]), due[n]);
            c.due("keep " + is[n], x.keep(0, 0, is[n]), due[n]);
            c.due("claim " + is[n], x.claim(0, is[n], 0), due[n]);
        }
        c.due("the NUMBER of the 24th", x.ruling(0, 4), 7);
    }

    private static void readNowEverywhere() {
        c.sentence("T5", "as READ NOW: for each call that takes a CLAIM");
        AdvertCouncil x = new AdvertCouncil();
        Check.phrase(x, 0, 1, 1, 0, 1);
        Check.phrase(x, 1, 1, 1, 51, 1);
        Check.advert(x, 0, 0, 1);
        for (int n = 0; n < 3; n++) {
            x.seat(0);
        }
        x.days(50);
        x.decide(0, 0, 7, 0);
        for (int day = 50; day < 52; day++) {
            int due = day - 51;
            c.due("keep", x.keep(0, 0, 1), due == 0 ? 1 : -1);
            c.due("decide", x.decide(0, 1, 7, 0), due == 0 ? 1 : -1);
            c.due("binding", x.binding(0, 1), due == 0 ? 1 : -1);
            c.due("like", x.like(0, 1, 0), due == 0 ? 1 : -1);
            c.due("clash", x.clash(0, 1), due);
            c.due("apart", x.apart(0, 0, 1), due == 0 ? 1 : -1);
            c.due("claim", x.claim(0, 1, 0), due == 0 ? 1 : -1);
            x.days(1);
        }
        x.unphrase(0);
        c.due("one was STRUCK: the other comes first", x.keep(0, 0, 0), 1);
        c.due("decide", x.decide(0, 0, 7, 0), 2);
        c.due("its KIND", x.ruling(2, 2), 1);
        c.due("binding", x.binding(0, 0), 1);
        c.due("apart", x.apart(0, 0, 0), 1);
        c.due("no second", x.like(0, 1, 0), -1);
    }

    private static void struckOnTheLastDay() {
        c.sentence("T1", "9,000 at most: TOLD and STRUCK on the last DAY");
        AdvertCouncil x = told(0, 0);
        Check.daysOn(x, 9000);
        c.due("TOLD", Check.phrase(x, 4, 1, 1, 9000, 1), 1);
        c.due("both", x.claims(0, 9000, 9000), 2);
        c.due("the DAY ahead", x.claims(0, 8999, 9000), 1);
        c.due("KNOWN the DAY ahead", x.claims(0, 9000, 8999), 1);
        c.due("STRUCK", x.unphrase(0), 1);
        c.due("the other", x.claims(0, 9000, 9000), 1);
        c.due("both, KNOWN the DAY ahead", x.claims(0, 9000, 8999), 1);
        c.due("the first, KNOWN the DAY ahead", x.claims(0, 8999, 8999), 1);
    }

    /** CLAIM 0 is of SUBJECT 1, CLAIM 1 of 2; what is LEFT of SUBJECT 1 is 8 9. */
    private static AdvertCouncil left() {
        AdvertCouncil x = new AdvertCouncil();
        Check.phrase(x, 0, 1, 1, 0, 1);
        Check.phrase(x, 0, 2, 1, 0, 1);
        Check.phrase(x, 3, 1, 1, 0, 8, 9);
        Check.advert(x, 0, 0, 1);
        return x;
    }

    private static void takenBack(AdvertCouncil x, int due, long... print) {
        c.due("print", Check.print(x, 0, 0, print), 0);
        c.due("TAKEN BACK by a PRINT of " + print.length, x.claim(0, 0, 5), due);
    }

    private static void takenBackPlaces() {
        c.sentence("T2", "if WORDS of some LEFT PHRASE .. stand so somewhere in PRINT");
        AdvertCouncil x = left();
        takenBack(x, 1, 8, 9);
        takenBack(x, 1, 8, 9, 0);
        takenBack(x, 1, 0, 8, 9);
        takenBack(x, 1, 0, 0, 0, 0, 0, 0, 0, 0, 0, 0, 8, 9);
        takenBack(x, 0, 0, 0, 0, 0, 0, 0, 0, 0, 0, 0, 0, 8);
        takenBack(x, 0, 8);
        takenBack(x, 0, 9);
        takenBack(x, 0);
        takenBack(x, 0, 9, 8);
        takenBack(x, 0, 8, 0, 9);
        takenBack(x, 1, 8, 8, 9, 9);
    }

    private static void takenBackWhole() {
        c.sentence("T2", "WORDS of some LEFT PHRASE .. in PRINT: six of them");
        AdvertCouncil x = left();
        x.unphrase(2);
        Check.phrase(x, 3, 1, 1, 0, 1, 2, 3, 4, 5, 6);
        takenBack(x, 1, 1, 2, 3, 4, 5, 6);
        takenBack(x, 0, 1, 2, 3, 4, 5);
        takenBack(x, 0, 2, 3, 4, 5, 6);
        takenBack(x, 1, 0, 0, 0, 0, 0, 0, 1, 2, 3, 4, 5, 6);
        takenBack(x, 0, 0, 0, 0, 0, 0, 0, 0, 1, 2, 3, 4, 5);
    }

    private static void takenBackSubject() {
        c.sentence("T2", "some LEFT PHRASE IN FORCE of its SUBJECT");
        AdvertCouncil x = left();
        Check.print(x, 0, 0, 8, 9);
        c.due("of SUBJECT 1", x.claim(0, 0, 5), 1);
        c.due("of SUBJECT 2", x.claim(0, 1, 5), 0);
        Check.phrase(x, 0, 2, 1, 0, 8);
        c.due("another KIND of PHRASE", x.claim(0, 1, 5), 0);
        Check.phrase(x, 3, 2, 999, 0, 9);
        c.due("one of SUBJECT 2", x.claim(0, 1, 5), 1);
    }

    private static void takenBackInForce() {
        c.sentence("T2", "some LEFT PHRASE IN FORCE: AS OF a, KNOWN k");
        AdvertCouncil x = new AdvertCouncil();
        Check.phrase(x, 0, 1, 1, 0, 1);
        Check.rule(x, 0, "b:l=1");
        Check.advert(x, 0, 0, 1);
        Check.print(x, 0, 0, 8);
        x.days(40);
        Check.phrase(x, 3, 1, 1, 60, 8);
        x.days(40);
        x.unphrase(1);
        int[][] due = {{60, 40, 0}, {59, 40, -1}, {60, 39, -1}, {40, 60, -1}, {79, 80, 0}, {80, 79, 0}, {80, 80, -1}};
        for (int[] d : due) {
            c.due("bars(0, 0, " + d[0] + ", " + d[1] + ")", x.bars(0, 0, d[0], d[1]), d[2]);
        }
        c.due("NOW", x.claim(0, 0, 5), 0);
    }

    private static void takenBackNow() {
        c.sentence("16", "as READ so NOW (AS OF, KNOWN): .. 5 1 if TAKEN BACK");
        AdvertCouncil x = new AdvertCouncil();
        Check.phrase(x, 3, 1, 1, 50, 8);
        Check.phrase(x, 0, 1, 1, 0, 1);
        Check.advert(x, 0, 0, 1);
        Check.print(x, 0, 0, 8, 9);
        x.days(49);
        c.due("the DAY ahead", x.claim(0, 0, 5), 0);
        x.days(1);
        c.due("the DAY, by the first PHRASE", x.claim(0, 0, 5), 1);
        x.unphrase(0);
        c.due("STRUCK", x.claim(0, 0, 5), 0);
        Check.phrase(x, 3, 1, 1, 0, 9);
        c.due("TOLD NOW, by the last PHRASE", x.claim(0, 0, 5), 1);
    }

    private static void takenBackNoWords() {
        c.sentence("T2", "TAKEN BACK: in PRINT, not in WORDS");
        AdvertCouncil x = left();
        Check.advert(x, 0, 0, 1, 8, 9);
        c.due("in its WORDS", x.claim(1, 0, 5), 0);
        Check.print(x, 0, 0, 8, 9);
        c.due("in another's PRINT", x.claim(1, 0, 5), 0);
        x.print(1, 7, 0);
        c.due("in its PRINT", x.claim(1, 0, 5), 1);
    }

    private static void claimWhats() {
        c.sentence("16", "NONE: no such one, another what.");
        AdvertCouncil x = House.made();
        int[] due = {-1, 1, 2, 40, 0, 0, 1, 1, 1, -1, -1};
        for (int what = -1; what < 10; what++) {
            c.due("claim(0, 0, " + what + ")", x.claim(0, 0, what), due[what + 1]);
        }
        c.due("an ADVERT of none", x.claim(3, 0, 0), -1);
        c.due("a CLAIM of none", x.claim(0, 7, 0), -1);
    }

    private static void keepEnds() {
        c.sentence("17", "SHELF s holds CLAIM i of an ADVERT as READ NOW: its KIND .. -1 either.");
        AdvertCouncil x = House.made();
        c.due("the first SHELF, the first CLAIM", x.keep(0, 0, 0), 1);
        c.due("the last SHELF, the last CLAIM", x.keep(7, 0, 6), 4);
        c.due("SHELF -1", x.keep(-1, 0, 0), -1);
        c.due("SHELF 8", x.keep(8, 0, 0), -1);
        c.due("CLAIM -1", x.keep(7, 0, -1), -1);
        c.due("CLAIM 7", x.keep(7, 0, 7), -1);
        c.due("ADVERT 3", x.keep(7, 3, 0), -1);
        c.due("ADVERT -2", x.keep(7, -2, 0), -1);
        c.due("the last SHELF behind it", x.holds(7), 5);
        c.due("refused", x.status(11), 6);
    }

    private static void keepNone() {
        c.sentence("17", "advert NONE: NOTHING, NONE.");
        AdvertCouncil x = House.made();
        int[] is = {-1, 0, 1, MOST, Integer.MIN_VALUE};
        for (int i : is) {
            x.keep(0, 0, 0);
            c.due("keep(0, NONE, " + i + ")", x.keep(0, -1, i), -1);
            c.due("NOTHING", x.holds(0), -1);
        }
        c.due("no refusal", x.status(11), 0);
        c.due("SHELF 8", x.keep(8, -1, 0), -1);
        c.due("a refusal", x.status(11), 1);
    }

    private static void keepNow() {
        c.sentence("17", "as READ NOW");
        AdvertCouncil x = told(0, 50);
        x.days(49);
        c.due("the DAY ahead", x.keep(0, 0, 0), -1);
        c.due("NOTHING", x.holds(0), -1);
        x.days(1);
        c.due("the DAY", x.keep(0, 0, 0), 0);
        x.unphrase(0);
        c.due("STRUCK", x.keep(0, 0, 0), -1);
        c.due("what it held", x.holds(0), 0);
    }
}
