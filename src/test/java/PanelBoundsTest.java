/** The bounds of SEATS and RULINGS: T4, promises 25 to 34. What is refused stands in RefusalsTest, too. */
public final class PanelBoundsTest {
    private static final Check c = new Check("PanelBoundsTest");

    public static void main(String[] args) {
        seats();
        seatsFull();
        seatKin();
        votesOfAll();
        votesNone();
        threeCount();
        kinDontCount();
        kinOfOtherFirms();
        moreToBar();
        rulings();
        rulingsFull();
        rulingKeeps();
        rulingWhats();
        againThen();
        bindingThen();
        likeNumbers();
        likeEnds();
        likeKinds();
        likeStands();
        likePlaces();
        bindingFirst();
        bindingMedium();
        againNumbers();
        againOfThat();
        againDays();
        againStands();
        clashPairs();
        clashLike();
        apartNumbers();
        apartBits();
        kinVoidsBelowThree();
        kinVoidsOtherwise();
        kinOfAllNow();
        kinLeavesOthers();
        kinAddsOne();
        kinTwice();
        voidStays();
        appealDays();
        appealOnce();
        appealNotStanding();
        appealFirstDay();
        undoneChain();
        undoneThose();
        undoneNotVoid();
        undoneLater();
        stepAdds();
        stepFive();
        stepFalls();
        stepBetween();
        stepNotBelow();
        stepOfThose();
        stepFirms();
        c.end();
    }

    /** As many SEATS, of no KIN; PHRASE n is a NUMBER on SUBJECT 1 of the n-th number; all stand on word 1. */
    private static AdvertCouncil panel(int seats, int... numbers) {
        AdvertCouncil x = new AdvertCouncil();
        for (int number : numbers) {
            Check.phrase(x, 1, 1, number, 0, 1);
        }
        for (int n = 0; n < seats; n++) {
            x.seat(0);
        }
        return x;
    }

    /** An ADVERT of FIRM 0 in MEDIUM 0. */
    private static AdvertCouncil oneClaim(int seats) {
        AdvertCouncil x = panel(seats, 100);
        Check.advert(x, 0, 0, 1);
        return x;
    }

    private static void states(AdvertCouncil x, String when, int... due) {
        for (int r = 0; r < due.length; r++) {
            c.due("RULING " + r + " " + when, x.ruling(r, 9), due[r]);
        }
    }

    private static void seats() {
        c.sentence("T4", "SEATS have numbers, from 0 on, 9 at most");
        AdvertCouncil x = new AdvertCouncil();
        for (int n = 0; n < 9; n++) {
            c.due("none yet", x.kin(n, 0), -1);
            c.due("its number", x.seat(0), n);
        }
        c.due("a 10th", x.seat(0), -7);
        c.due("none of its number", x.kin(9, 0), -1);
        c.due("the last is there", x.kin(8, 0), 0);
        c.due("as many", x.status(4), 9);
    }

    private static void seatsFull() {
        c.sentence("25", "-7");
        AdvertCouncil x = oneClaim(9);
        for (int n = 1; n <= 3; n++) {
            c.due("a 10th", x.seat(4095), -7);
            c.due("each counts", x.status(17), n);
        }
        c.due("a vote of a 10th", x.decide(0, 0, 512 | 7, 0), -1);
        c.due("all nine", x.decide(0, 0, 511, 0), 0);
        c.due("all count", x.ruling(0, 10), 9);
        c.due("the last is KIN to none", x.kin(8, 11), 0);
    }

    private static void seatKin() {
        c.sentence("25", "KIN to FIRMS (bits): its number. -1 a bit of none");
        AdvertCouncil x = new AdvertCouncil();
        int[] not = {4096, 8192, 4097, -1, Integer.MIN_VALUE, Integer.MAX_VALUE, 1 << 12 | 4095};
        for (int bits : not) {
            c.due("seat(" + bits + ")", x.seat(bits), -1);
        }
        c.due("none came", x.status(4), 0);
        c.due("KIN to none", x.seat(0), 0);
        c.due("KIN to all", x.seat(4095), 1);
        c.due("KIN to every other", x.seat(0b101010101010), 2);
        for (int firm = 0; firm < 12; firm++) {
            c.due("none, FIRM " + firm, x.kin(0, firm), 0);
            c.due("all, FIRM " + firm, x.kin(1, firm), -6);
            c.due("every other, FIRM " + firm, x.kin(2, firm), firm % 2 == 1 ? -6 : 0);
        }
    }

    private static void votesOfAll() {
        c.sentence("26", "-1 .. a SEAT of none");
        AdvertCouncil x = oneClaim(4);
        c.due("bit 4 to bar", x.decide(0, 0, 16 | 7, 0), -1);
        c.due("bit 4 not to", x.decide(0, 0, 7, 16), -1);
        c.due("the sign", x.decide(0, 0, 7 | Integer.MIN_VALUE, 0), -1);
        c.due("all bits", x.decide(0, 0, -1, 0), -1);
        c.due("all bits not to", x.decide(0, 0, 0, -1), -1);
        c.due("bit 3 to bar", x.decide(0, 0, 8 | 3, 0), 0);
        c.due("bit 3 not to", x.decide(0, 0, 3, 8), 1);
        c.due("a fifth SEAT", x.seat(0), 4);
        c.due("bit 4", x.decide(0, 0, 16 | 7, 0), 2);
        c.due("bit 5", x.decide(0, 0, 32 | 7, 0), -1);
        c.due("refused", x.status(11), 6);
    }

    private static void votesNone() {
        c.sentence("T4", "votes to bar and not to (sets of SEATS, none both ways)");
        AdvertCouncil x = oneClaim(9);
        for (int seat = 0; seat < 9; seat++) {
            int bit = 1 << seat;
            c.due("SEAT " + seat + " both ways", x.decide(0, 0, 511, bit), -6);
            c.due("SEAT " + seat + " both ways", x.decide(0, 0, bit, 511), -6);
            c.due("SEAT " + seat + " the other way", x.decide(0, 0, 511 ^ bit, bit), seat);
        }
        AdvertCouncil kin = oneClaim(4);
        kin.seat(1);
        c.due("one of KIN both ways", kin.decide(0, 0, 15 | 16, 16), -6);
        c.due("as many RULINGS", kin.status(5), 0);
    }

    private static void threeCount() {
        c.sentence("T4", "It is good if 3 or more count");
        AdvertCouncil x = oneClaim(5);
        int[][] few = {{0, 0}, {1, 0}, {0, 1}, {3, 0}, {0, 3}, {1, 2}, {16, 8}};
        for (int[] votes : few) {
            c.due("decide(0, 0, " + votes[0] + ", " + votes[1] + ")", x.decide(0, 0, votes[0], votes[1]), -6);
        }
        int[][] good = {{7, 0}, {0, 7}, {1, 6}, {6, 1}, {28, 0}, {16, 12}};
        for (int n = 0; n < good.length; n++) {
            c.due("decide(0, 0, " + good[n][0] + ", " + good[n][1] + ")", x.decide(0, 0, good[n][0], good[n][1]), n);
            c.due("three", x.ruling(n, 10), 3);
        }
        c.due("refused", x.status(16), few.length);
    }

    private static void kinDontCount() {
        c.sentence("T4", "those of KIN to the ADVERT's FIRM don't count");
        AdvertCouncil x = panel(3, 100);
        x.seat(1);
        x.seat(1 | 1 << 11);
        Check.advert(x, 0, 0, 1);
        c.due("two and two of KIN", x.decide(0, 0, 3 | 24, 0), -6);
        c.due("two and KIN not to", x.decide(0, 0, 3, 24), -6);
        c.due("three and two of KIN", x.decide(0, 0, 7 | 24, 0), 0);
        c.due("three count", x.ruling(0, 10), 3);
        c.due("one of three, two of KIN to bar", x.decide(0, 0, 1 | 24, 6), 1);
        c.due("it doesn't BAR", x.ruling(1, 6), 0);
        c.due("two of three, two of KIN not to", x.decide(0, 0, 3, 4 | 24), 2);
        c.due("it BARS", x.ruling(2, 6), 1);
        Check.advert(x, 11, 0, 1);
        c.due("FIRM 11: two and one of its KIN", x.decide(1, 0, 3 | 16, 0), -6);
        c.due("FIRM 11: two and one of another's KIN", x.decide(1, 0, 3 | 8, 0), 3);
    }

    private static void kinOfOtherFirms() {
        c.sentence("T4", "KIN to the ADVERT's FIRM: to each of 0 to 11");
        AdvertCouncil x = panel(2, 100);
        for (int firm = 0; firm < 12; firm++) {
            Check.advert(x, firm, 0, 1);
        }
        x.seat(0b010101010101);
        x.seat(0b101010101010);
        for (int firm = 0; firm < 12; firm++) {
            c.due("FIRM " + firm + " by its KIN", x.decide(firm, 0, 3 | 4 << firm % 2, 0), -6);
            c.due("FIRM " + firm + " by another's", x.decide(firm, 0, 3 | 8 >> firm % 2, 0), firm);
        }
    }

    private static void moreToBar() {
        c.sentence("T4", "it BARS if more are to bar than not");
        AdvertCouncil x = oneClaim(9);
        int[][] votes = {{7, 0}, {3, 4}, {1, 6}, {0, 7}, {3, 12}, {7, 24}, {15, 240}, {31, 480}, {15, 496}, {511, 0}, {0, 511}};
        int[] due = {1, 1, 0, 0, 0, 1, 0, 1, 0, 1, 0};
        for (int n = 0; n < votes.length; n++) {
            c.due("decide", x.decide(0, 0, votes[n][0], votes[n][1]), n);
            c.due("BARS by " + votes[n][0] + " and " + votes[n][1], x.ruling(n, 6), due[n]);
            c.due("how many", x.ruling(n, 10), Integer.bitCount(votes[n][0] | votes[n][1]));
        }
        c.due("those that BAR", x.status(7), 5);
    }

    private static void rulings() {
        c.sentence("T4", "A RULING (numbers from 0 on, 40 at most)");
        AdvertCouncil x = oneClaim(3);
        for (int n = 0; n < 40; n++) {
            c.due("none yet", x.ruling(n, 0), -1);
            c.due("its number", x.decide(0, 0, 7, 0), n);
        }
        c.due("a 41st", x.decide(0, 0, 7, 0), -7);
        c.due("none of its number", x.ruling(40, 0), -1);
        c.due("none of its number", x.appeal(40, true), -1);
        c.due("none of its number", x.apart(40, 0, 0), -1);
        c.due("the last is apart in nothing", x.apart(39, 0, 0), 0);
        c.due("the last", x.appeal(39, true), 1);
        c.due("no room by that", x.decide(0, 0, 7, 0), -7);
        c.due("as many", x.status(5), 40);
    }

    private static void rulingsFull() {
        c.sentence("26", "-7");
        AdvertCouncil x = panel(3, 100, 200);
        Check.advert(x, 0, 0, 1);
        for (int n = 0; n < 40; n++) {
            x.decide(0, 0, 0, 7);
        }
        for (int n = 1; n <= 3; n++) {
            c.due("a 41st", x.decide(0, 1, 7, 0), -7);
            c.due("each counts", x.status(17), n);
        }
        c.due("none that BARS", x.status(7), 0);
        c.due("none LIKE it", x.like(0, 1, 0), -1);
        c.due("the 40th LIKE the other", x.like(0, 0, 39), 39);
        c.due("a 41st LIKE the other", x.like(0, 0, 40), -1);
        c.due("STEP", x.step(0), 0);
    }

    private static void rulingKeeps() {
        c.sentence("T4", "It keeps FIRM, MEDIUM, KIND, SUBJECT, NUMBER, DAY: the least and the greatest");
        AdvertCouncil x = panel(3);
        Check.phrase(x, 0, 0, 0, 0, 1);
        Check.phrase(x, 5, 15, 999, 0, 2);
        Check.advert(x, 0, 0, 1);
        Check.advert(x, 11, 5, 2);
        x.decide(0, 0, 7, 0);
        Check.daysOn(x, 9000);
        x.decide(1, 0, 0, 7);
        x.unphrase(0);
        x.unphrase(1);
        int[][] due = {{0, 0, 0, 0, 0, 0, 1, 0, -1, 0, 3}, {11, 5, 5, 15, 999, 9000, 0, 0, -1, 0, 3}};
        for (int r = 0; r < 2; r++) {
            for (int what = 0; what <= 10; what++) {
                c.due("ruling(" + r + ", " + what + ")", x.ruling(r, what), due[r][what]);
            }
        }
    }

    private static void rulingWhats() {
        c.sentence("27", "NONE: no such one, another what.");
        AdvertCouncil x = House.made();
        int[] due = {-1, 1, 2, 1, 2, 40, 78, 1, 0, -1, 0, 4, -1, -1};
        for (int what = -1; what < 13; what++) {
            c.due("ruling(0, " + what + ")", x.ruling(0, what), due[what + 1]);
        }
        states(x, "of the house", 0, 0, 0, 2, 1, -1);
        c.due("RULING -1", x.ruling(-1, 9), -1);
    }

    private static void againThen() {
        c.sentence("T4", "whether it was said AGAIN then");
        AdvertCouncil x = oneClaim(4);
        x.decide(0, 0, 7, 0);
        x.decide(0, 0, 7, 0);
        x.decide(0, 0, 0, 7);
        c.due("not by itself", x.ruling(0, 7), 0);
        c.due("by the one before", x.ruling(1, 7), 1);
        c.due("one that doesn't BAR, too", x.ruling(2, 7), 1);
        x.days(1);
        x.appeal(0, true);
        c.due("behind an appeal", x.ruling(1, 7), 1);
        c.due("behind an appeal", x.ruling(0, 7), 0);
        c.due("NOW", x.claim(0, 0, 7), 0);
    }

    private static void bindingThen() {
        c.sentence("T4", "which RULING was BINDING then");
        AdvertCouncil x = oneClaim(4);
        for (int n = 0; n < 3; n++) {
            x.decide(0, 0, 7, 0);
        }
        c.due("none for the first", x.ruling(0, 8), -1);
        c.due("the first for the second", x.ruling(1, 8), 0);
        c.due("the first for the third", x.ruling(2, 8), 0);
        AdvertCouncil later = panel(4, 100);
        Check.advert(later, 0, 0, 1);
        Check.advert(later, 1, 0, 1);
        later.decide(0, 0, 7, 0);
        later.decide(1, 0, 7, 0);
        later.kin(0, 0);
        later.decide(1, 0, 7, 0);
        c.due("VOID behind it", later.ruling(0, 9), 1);
        c.due("then", later.ruling(1, 8), 0);
        c.due("the first that STANDS", later.ruling(2, 8), 1);
    }

    private static void likeNumbers() {
        c.sentence("T4", "LIKE: .. NUMBERS 10 apart at most");
        int[] numbers = {100, 89, 90, 91, 109, 110, 111, 0, 999};
        int[] due = {1, 0, 1, 1, 1, 1, 0, 0, 0};
        AdvertCouncil x = panel(3, numbers);
        Check.advert(x, 0, 0, 1);
        x.decide(0, 0, 7, 0);
        for (int i = 0; i < numbers.length; i++) {
            c.due("LIKE for " + numbers[i], x.like(0, i, 0), due[i] - 1);
            c.due("BINDING on " + numbers[i], x.binding(0, i), due[i] - 1);
            c.due("apart from " + numbers[i], x.apart(0, 0, i), due[i] == 1 ? 0 : 4);
        }
    }

    private static void likeEnds() {
        c.sentence("T4", "NUMBERS 10 apart at most: at the least and the greatest NUMBER");
        AdvertCouncil x = panel(3, 0, 10, 11, 988, 989, 999);
        Check.advert(x, 0, 0, 1);
        x.decide(0, 0, 7, 0);
        x.decide(0, 5, 7, 0);
        int[] due = {0, 0, -1, -1, 1, 1};
        for (int i = 0; i < due.length; i++) {
            c.due("LIKE for CLAIM " + i, x.like(0, i, 0), due[i]);
            c.due("no other", x.like(0, i, 1), -1);
        }
    }

    private static void likeKinds() {
        c.sentence("T4", "LIKE: .. of the same KIND and SUBJECT");
        AdvertCouncil x = panel(3, 100);
        Check.phrase(x, 5, 1, 100, 0, 1);
        Check.phrase(x, 0, 1, 100, 0, 1);
        Check.phrase(x, 1, 2, 100, 0, 1);
        Check.phrase(x, 1, 0, 100, 0, 1);
        Check.advert(x, 0, 0, 1);
        x.decide(0, 0, 7, 0);
        c.due("the same", x.like(0, 0, 0), 0);
        for (int i = 1; i < 5; i++) {
            c.due("another KIND or SUBJECT: " + i, x.like(0, i, 0), -1);
            c.due("another KIND or SUBJECT: " + i, x.binding(0, i), -1);
            c.due("another KIND or SUBJECT: " + i, x.clash(0, i), 0);
            c.due("another KIND or SUBJECT: " + i, x.claim(0, i, 7), 0);
        }
        x.decide(0, 1, 7, 0);
        c.due("UPTO alone for UPTO", x.like(0, 1, 0), 1);
        c.due("UPTO isn't for NUMBER", x.like(0, 0, 1), -1);
        x.appeal(0, true);
        c.due("UPTO isn't for NUMBER", x.like(0, 0, 0), -1);
        c.due("nor said AGAIN", x.claim(0, 0, 7), 0);
    }

    private static void likeStands() {
        c.sentence("T4", "LIKE: a RULING that STANDS");
        AdvertCouncil x = oneClaim(4);
        for (int n = 0; n < 3; n++) {
            x.decide(0, 0, n == 1 ? 14 : 15, 0);
        }
        Check.advert(x, 1, 1, 1);
        x.kin(1, 0);
        x.kin(0, 0);
        states(x, "behind kin", 1, 1, 1);
        c.due("none STANDS", x.like(0, 0, 0), -1);
        c.due("none STANDS", x.binding(0, 0), -1);
        c.due("none STANDS", x.clash(0, 0), 0);
        x.decide(1, 0, 7, 0);
        c.due("one that STANDS", x.like(0, 0, 0), 3);
        c.due("in another MEDIUM", x.binding(0, 0), -1);
        x.appeal(3, true);
        c.due("UNDONE", x.like(0, 0, 0), -1);
    }

    private static void likePlaces() {
        c.sentence("29", "The i-th LIKE RULING (i 0 on) .. NONE: none such.");
        AdvertCouncil x = panel(3, 100, 200);
        Check.advert(x, 0, 0, 1);
        for (int n = 0; n < 6; n++) {
            x.decide(0, n % 2, 7, 0);
        }
        int[] due = {-1, 0, 2, 4, -1, -1};
        int[] other = {-1, 1, 3, 5, -1, -1};
        for (int i = -1; i < 5; i++) {
            c.due("like(0, 0, " + i + ")", x.like(0, 0, i), due[i + 1]);
            c.due("like(0, 1, " + i + ")", x.like(0, 1, i), other[i + 1]);
        }
        c.due("the greatest i", x.like(0, 0, Integer.MAX_VALUE), -1);
        c.due("the least i", x.like(0, 0, Integer.MIN_VALUE), -1);
        c.due("no CLAIM 2", x.like(0, 2, 0), -1);
    }

    private static void bindingFirst() {
        c.sentence("T4", "BINDING on a CLAIM in an ADVERT: the first LIKE RULING");
        AdvertCouncil x = panel(3, 100, 110, 120);
        Check.advert(x, 0, 0, 1);
        c.due("none", x.binding(0, 0), -1);
        x.decide(0, 2, 7, 0);
        x.decide(0, 1, 7, 0);
        x.decide(0, 0, 7, 0);
        int[] due = {1, 0, 0};
        for (int i = 0; i < 3; i++) {
            c.due("binding(0, " + i + ")", x.binding(0, i), due[i]);
        }
        x.appeal(0, true);
        c.due("what hung on it is UNDONE, too", x.status(9), 3);
        c.due("none again", x.binding(0, 0), -1);
    }

    private static void bindingMedium() {
        c.sentence("T4", "BINDING: the first LIKE RULING of the same MEDIUM");
        AdvertCouncil x = panel(3, 100);
        for (int medium = 0; medium < 6; medium++) {
            Check.advert(x, 11 - medium, medium, 1);
        }
        for (int medium = 5; medium >= 0; medium--) {
            c.due("none in MEDIUM " + medium, x.binding(medium, 0), -1);
            c.due("decide", x.decide(medium, 0, 7, 0), 5 - medium);
            c.due("its own", x.binding(medium, 0), 5 - medium);
            c.due("none was BINDING", x.ruling(5 - medium, 8), -1);
        }
        c.due("the first LIKE, of any MEDIUM", x.like(0, 0, 0), 0);
        c.due("its MEDIUM alone", x.binding(0, 0), 5);
    }

    private static void againNumbers() {
        c.sentence("T4", "Said AGAIN ..: its NUMBER no more than the CLAIM's");
        AdvertCouncil x = panel(3, 100, 99, 101, 0, 999, 500);
        Check.advert(x, 0, 0, 1);
        x.decide(0, 0, 7, 0);
        int[] due = {1, 0, 1, 0, 1, 1};
        for (int i = 0; i < due.length; i++) {
            c.due("claim(0, " + i + ", 7)", x.claim(0, i, 7), due[i]);
        }
    }

    private static void againOfThat() {
        c.sentence("T4", "Said AGAIN: .. a RULING that STANDS, BARS, of that FIRM, KIND, SUBJECT");
        AdvertCouncil x = panel(3, 100);
        Check.phrase(x, 5, 1, 100, 0, 1);
        Check.phrase(x, 1, 2, 100, 0, 1);
        Check.advert(x, 0, 0, 1);
        Check.advert(x, 0, 5, 1);
        Check.advert(x, 1, 0, 1);
        x.decide(0, 0, 1, 6);
        c.due("one that doesn't BAR", x.claim(0, 0, 7), 0);
        x.decide(0, 0, 6, 1);
        c.due("one that BARS", x.claim(0, 0, 7), 1);
        c.due("of another MEDIUM", x.claim(1, 0, 7), 1);
        c.due("of another FIRM", x.claim(2, 0, 7), 0);
        c.due("of another KIND", x.claim(0, 1, 7), 0);
        c.due("of another SUBJECT", x.claim(0, 2, 7), 0);
    }

    private static void againDays() {
        c.sentence("T4", "Said AGAIN, AS OF a, KNOWN k: .. of a DAY that is both a and k or earlier");
        AdvertCouncil x = oneClaim(3);
        Check.rule(x, 0, "b:a=1");
        x.days(50);
        x.decide(0, 0, 7, 0);
        int[][] due = {{50, 50, 0}, {49, 50, -1}, {50, 49, -1}, {49, 9000, -1}, {9000, 49, -1}, {51, 51, 0}, {50, 9000, 0},
            {9000, 50, 0}, {0, 0, -1}};
        for (int[] d : due) {
            c.due("bars(0, 0, " + d[0] + ", " + d[1] + ")", x.bars(0, 0, d[0], d[1]), d[2]);
        }
        c.due("NOW", x.claim(0, 0, 7), 1);
    }

    private static void againStands() {
        c.sentence("T4", "Said AGAIN: there is a RULING that STANDS");
        AdvertCouncil x = oneClaim(4);
        x.decide(0, 0, 7, 0);
        x.kin(0, 0);
        c.due("VOID", x.claim(0, 0, 7), 0);
        x.decide(0, 0, 14, 0);
        c.due("one that STANDS", x.claim(0, 0, 7), 1);
        x.appeal(1, true);
        c.due("UNDONE", x.claim(0, 0, 7), 0);
    }

    private static void clashPairs() {
        c.sentence("32", "How many pairs of LIKE RULINGS of the ADVERT's MEDIUM say otherwise");
        AdvertCouncil x = oneClaim(3);
        c.due("none", x.clash(0, 0), 0);
        int[] bars = {1, 1, 0, 1, 0, 0, 0};
        int[] due = {0, 0, 2, 3, 6, 9, 12};
        for (int n = 0; n < bars.length; n++) {
            x.decide(0, 0, bars[n] == 1 ? 7 : 0, bars[n] == 1 ? 0 : 7);
            c.due("of " + (n + 1), x.clash(0, 0), due[n]);
        }
        AdvertCouncil full = oneClaim(3);
        for (int n = 0; n < 40; n++) {
            full.decide(0, 0, n < 20 ? 7 : 0, n < 20 ? 0 : 7);
        }
        c.due("of forty", full.clash(0, 0), 400);
    }

    private static void clashLike() {
        c.sentence("32", "LIKE RULINGS of the ADVERT's MEDIUM; NONE: no such CLAIM.");
        AdvertCouncil x = panel(4, 100, 110, 111);
        Check.advert(x, 0, 0, 1);
        Check.advert(x, 1, 5, 1);
        x.decide(0, 0, 7, 0);
        x.decide(0, 1, 0, 7);
        x.decide(0, 2, 0, 7);
        x.decide(1, 0, 0, 7);
        c.due("one 10 apart, one 11, one of another MEDIUM", x.clash(0, 0), 1);
        c.due("all of MEDIUM 0", x.clash(0, 1), 2);
        c.due("alike both", x.clash(0, 2), 0);
        c.due("one of MEDIUM 5", x.clash(1, 0), 0);
        x.kin(0, 0);
        c.due("none STANDS", x.clash(0, 1), 0);
        c.due("CLAIM -1", x.clash(0, -1), -1);
        c.due("CLAIM 3", x.clash(0, 3), -1);
        c.due("ADVERT 2", x.clash(2, 0), -1);
    }

    private static void apartNumbers() {
        c.sentence("30", "2 NUMBER (more than 10 apart)");
        AdvertCouncil x = panel(3, 100, 110, 111, 90, 89, 0, 999);
        Check.advert(x, 0, 0, 1);
        x.decide(0, 0, 7, 0);
        int[] due = {0, 0, 4, 0, 4, 4, 4};
        for (int i = 0; i < due.length; i++) {
            c.due("apart(0, 0, " + i + ")", x.apart(0, 0, i), due[i]);
        }
    }

    private static void apartBits() {
        c.sentence("30", "bits 0 KIND, 1 SUBJECT, 2 NUMBER .., 3 MEDIUM, 4 FIRM. NONE: no such ones.");
        AdvertCouncil x = panel(4, 100);
        Check.phrase(x, 5, 1, 100, 0, 1);
        Check.phrase(x, 1, 2, 100, 0, 1);
        Check.phrase(x, 5, 2, 500, 0, 1);
        int[][] adverts = {{3, 5}, {3, 4}, {5, 5}, {5, 3}, {4, 4}};
        int[] bits = {0, 8, 16, 24, 24};
        for (int[] ad : adverts) {
            Check.advert(x, ad[0], ad[1], 1);
        }
        x.decide(0, 0, 7, 0);
        for (int n = 0; n < adverts.length; n++) {
            c.due("apart(0, " + n + ", 0)", x.apart(0, n, 0), bits[n]);
            c.due("apart(0, " + n + ", 1)", x.apart(0, n, 1), bits[n] + 1);
            c.due("apart(0, " + n + ", 2)", x.apart(0, n, 2), bits[n] + 2);
            c.due("apart(0, " + n + ", 3)", x.apart(0, n, 3), bits[n] + 7);
        }
        c.due("RULING 1", x.apart(1, 0, 0), -1);
        c.due("RULING -1", x.apart(-1, 0, 0), -1);
        c.due("CLAIM 4", x.apart(0, 0, 4), -1);
        c.due("CLAIM -1", x.apart(0, 0, -1), -1);
        c.due("ADVERT 5", x.apart(0, 5, 0), -1);
        x.kin(0, 3);
        c.due("a VOID one is a RULING, too", x.apart(0, 4, 3), 31);
    }

    private static void kinVoidsBelowThree() {
        c.sentence("T4", "is VOID if without such votes .. fewer than 3 count");
        AdvertCouncil x = oneClaim(6);
        x.decide(0, 0, 7, 0);
        x.decide(0, 0, 15, 0);
        x.decide(0, 0, 0, 7);
        x.decide(0, 0, 0, 15);
        x.decide(0, 0, 14, 1);
        c.due("two count, twice", x.kin(0, 0), 2);
        states(x, "three or two", 1, 0, 1, 0, 0);
        c.due("how many counted then", x.ruling(1, 10), 4);
        c.due("two count now", x.kin(1, 0), 3);
        states(x, "two all", 1, 1, 1, 1, 1);
    }

    private static void kinVoidsOtherwise() {
        c.sentence("T4", "or it would BAR otherwise");
        AdvertCouncil x = oneClaim(8);
        x.decide(0, 0, 7, 24);
        x.decide(0, 0, 24, 7);
        x.decide(0, 0, 3, 12);
        x.decide(0, 0, 12, 3);
        x.decide(0, 0, 15, 48);
        c.due("without SEAT 0", x.kin(0, 0), 2);
        // 2 to 2 doesn't BAR, 2 to 2 doesn't either, 1 to 2 doesn't, 2 to 1 does, 3 to 2 does
        states(x, "without SEAT 0", 1, 0, 0, 1, 0);
        AdvertCouncil apart = panel(8, 100);
        Check.advert(apart, 9, 4, 1);
        apart.decide(0, 0, 7, 24);
        c.due("KIN to 4, that is the MEDIUM", apart.kin(0, 4), 0);
        c.due("KIN to 9, that is the FIRM", apart.kin(1, 9), 1);
        apart.decide(0, 0, 7, 24);
        c.due("2 to 2 doesn't BAR", apart.ruling(1, 6), 0);
        AdvertCouncil other = oneClaim(8);
        other.decide(0, 0, 7, 24);
        other.decide(0, 0, 24, 7);
        c.due("without one not to bar, or one to", other.kin(3, 0), 0);
        c.due("without both", other.kin(4, 0), 0);
        states(other, "three are left", 0, 0);
    }

    private static void kinOfAllNow() {
        c.sentence("T4", "without such votes (of all that are KIN now)");
        AdvertCouncil x = panel(6, 100);
        Check.advert(x, 2, 0, 1);
        x.decide(0, 0, 31, 0);
        x.decide(0, 0, 15, 0);
        c.due("first", x.kin(0, 2), 0);
        c.due("second", x.kin(1, 2), 1);
        states(x, "two are KIN", 0, 1);
        c.due("third", x.kin(2, 2), 1);
        states(x, "three are KIN", 1, 1);
        AdvertCouncil from = panel(4, 100);
        from.seat(1 << 2);
        Check.advert(from, 2, 0, 1);
        from.decide(0, 0, 15 | 16, 0);
        c.due("four count, one of KIN from the first", from.ruling(0, 10), 4);
        c.due("three count", from.kin(0, 2), 0);
        c.due("two count", from.kin(1, 2), 1);
    }

    private static void kinLeavesOthers() {
        c.sentence("T4", "each RULING on that FIRM in which it voted, and that STANDS");
        AdvertCouncil x = panel(5, 100);
        Check.advert(x, 2, 0, 1);
        Check.advert(x, 3, 0, 1);
        x.decide(0, 0, 7, 0);
        x.decide(1, 0, 7, 0);
        x.decide(0, 0, 14, 0);
        x.decide(0, 0, 0, 7);
        x.decide(0, 0, 7, 0);
        x.appeal(4, true);
        c.due("two of FIRM 2 by its votes that STAND", x.kin(0, 2), 2);
        states(x, "one of another FIRM, one without it, one UNDONE", 1, 0, 0, 1, 2);
        c.due("a SEAT that never voted", x.kin(4, 2), 0);
        c.due("a FIRM of no RULINGS", x.kin(1, 0), 0);
        states(x, "behind both", 1, 0, 0, 1, 2);
        c.due("VOID", x.status(8), 2);
        c.due("UNDONE", x.status(9), 1);
    }

    private static void kinAddsOne() {
        c.sentence("28", "A SEAT is KIN to a FIRM, too");
        AdvertCouncil x = panel(2, 100);
        x.seat(1);
        Check.advert(x, 0, 0, 1);
        Check.advert(x, 11, 0, 1);
        Check.advert(x, 5, 0, 1);
        c.due("KIN to 11, too", x.kin(2, 11), 0);
        c.due("KIN to 0 as it was", x.decide(0, 0, 7, 0), -6);
        c.due("KIN to 11", x.decide(1, 0, 7, 0), -6);
        c.due("not to 5", x.decide(2, 0, 7, 0), 0);
        c.due("0: it was", x.kin(2, 0), -6);
        c.due("11: it was", x.kin(2, 11), -6);
        c.due("another SEAT isn't", x.kin(1, 11), 0);
    }

    private static void kinTwice() {
        c.sentence("28", "-6 it was.");
        AdvertCouncil x = panel(5, 100);
        Check.advert(x, 0, 0, 1);
        c.due("once", x.kin(0, 0), 0);
        c.due("a RULING behind it", x.decide(0, 0, 15, 0), 0);
        c.due("twice", x.kin(0, 0), -6);
        c.due("it STANDS", x.ruling(0, 9), 0);
        c.due("three counted", x.ruling(0, 10), 3);
        c.due("another", x.kin(1, 0), 1);
    }

    private static void voidStays() {
        c.sentence("T4", "It STANDS till it is VOID or UNDONE.");
        AdvertCouncil x = oneClaim(5);
        x.decide(0, 0, 7, 0);
        x.kin(0, 0);
        c.due("no appeal", x.appeal(0, true), -6);
        c.due("VOID", x.ruling(0, 9), 1);
        c.due("VOID by no second", x.kin(1, 0), 0);
        c.due("VOID", x.status(8), 1);
        c.due("none STANDS", x.status(6), 0);
        c.due("none STANDS and BARS", x.status(7), 0);
        c.due("it BARRED then", x.ruling(0, 6), 1);
    }

    private static void appealDays() {
        c.sentence("T4", "in its 21 DAYS (of DAY to DAY and 21)");
        AdvertCouncil x = oneClaim(3);
        Check.advert(x, 1, 1, 1);
        x.days(100);
        x.decide(0, 0, 7, 0);
        x.decide(1, 0, 7, 0);
        x.days(21);
        c.due("DAY and 21", x.appeal(0, true), 1);
        x.days(1);
        c.due("DAY and 22", x.appeal(1, true), -6);
        c.due("DAY and 22, not upheld", x.appeal(1, false), -6);
        c.due("it STANDS", x.ruling(1, 9), 0);
        x.days(1000);
        c.due("far behind", x.appeal(1, true), -6);
        c.due("refused", x.status(16), 3);
    }

    private static void appealOnce() {
        c.sentence("33", "-6 .. it was appealed.");
        AdvertCouncil x = oneClaim(3);
        x.decide(0, 0, 7, 0);
        x.decide(0, 0, 7, 0);
        c.due("not upheld: none", x.appeal(0, false), 0);
        c.due("it STANDS", x.ruling(0, 9), 0);
        c.due("again", x.appeal(0, true), -6);
        c.due("again, not upheld", x.appeal(0, false), -6);
        c.due("it STANDS", x.ruling(0, 9), 0);
        c.due("the other", x.appeal(1, true), 1);
    }

    private static void appealNotStanding() {
        c.sentence("33", "-1; -6 it doesn't STAND");
        AdvertCouncil x = oneClaim(4);
        c.due("none yet", x.appeal(0, true), -1);
        x.decide(0, 0, 7, 0);
        c.due("-1", x.appeal(-1, true), -1);
        c.due("1", x.appeal(1, true), -1);
        x.appeal(0, true);
        c.due("UNDONE", x.appeal(0, true), -6);
        c.due("UNDONE, not upheld", x.appeal(0, false), -6);
        x.decide(0, 0, 7, 0);
        x.kin(0, 0);
        c.due("VOID", x.appeal(1, true), -6);
        c.due("VOID, not upheld", x.appeal(1, false), -6);
        c.due("UNDONE by appeal alone", x.status(9), 1);
    }

    private static void appealFirstDay() {
        c.sentence("T4", "of DAY: on the DAY itself, the first and the last there is");
        AdvertCouncil x = oneClaim(3);
        x.decide(0, 0, 7, 0);
        c.due("on DAY 0", x.appeal(0, true), 1);
        Check.daysOn(x, 8979);
        x.decide(0, 0, 7, 0);
        x.days(21);
        c.due("on DAY 9,000", x.appeal(1, true), 1);
        x.decide(0, 0, 7, 0);
        c.due("of DAY 9,000", x.appeal(2, true), 1);
    }

    /** RULINGS of 100, 110, .. in MEDIUM 0, each BINDING on the next (10 apart), of FIRMS 0, 1, 0, 1, .. */
    private static AdvertCouncil chain(int length) {
        AdvertCouncil x = new AdvertCouncil();
        for (int n = 0; n < length; n++) {
            Check.phrase(x, 1, 1, 100 + 10 * n, 0, 1);
        }
        for (int n = 0; n < 5; n++) {
            x.seat(0);
        }
        Check.advert(x, 0, 0, 1);
        Check.advert(x, 1, 0, 1);
        for (int n = 0; n < length; n++) {
            x.decide(n % 2, n, 7, 0);
        }
        return x;
    }

    private static void undoneChain() {
        c.sentence("T4", "those that STAND, for which it was BINDING as they were made, are UNDONE with it, and so on.");
        AdvertCouncil x = chain(20);
        c.due("the last bound by the one before", x.ruling(19, 8), 18);
        c.due("all twenty", x.appeal(0, true), 20);
        c.due("UNDONE", x.status(9), 20);
        x = chain(20);
        c.due("the last alone", x.appeal(19, true), 1);
        c.due("the two ahead", x.appeal(17, true), 2);
        c.due("UNDONE", x.status(9), 3);
        c.due("the rest", x.appeal(0, true), 17);
        c.due("none STANDS", x.status(6), 0);
    }

    private static void undoneThose() {
        c.sentence("T4", "for which it was BINDING as they were made: not all that are LIKE");
        AdvertCouncil x = panel(4, 100, 110, 120);
        Check.advert(x, 0, 0, 1);
        Check.advert(x, 0, 1, 1);
        x.decide(0, 1, 7, 0);
        x.decide(0, 0, 7, 0);
        x.decide(1, 1, 7, 0);
        x.decide(0, 2, 7, 0);
        int[] bound = {-1, 0, -1, 0};
        for (int r = 0; r < 4; r++) {
            c.due("BINDING for " + r, x.ruling(r, 8), bound[r]);
        }
        c.due("the second alone, though the fourth comes later", x.appeal(1, true), 1);
        states(x, "behind it", 0, 2, 0, 0);
        c.due("the first and the fourth", x.appeal(0, true), 2);
        states(x, "behind it", 2, 2, 0, 2);
        c.due("the other MEDIUM's", x.appeal(2, true), 1);
        AdvertCouncil near = panel(4, 110, 100, 105);
        Check.advert(near, 0, 0, 1);
        for (int n = 0; n < 3; n++) {
            near.decide(0, n, 7, 0);
        }
        c.due("the first is BINDING for the third", near.ruling(2, 8), 0);
        c.due("the second alone, though the third is LIKE it", near.appeal(1, true), 1);
        states(near, "behind it", 0, 2, 0);
    }

    private static void undoneNotVoid() {
        c.sentence("T4", "those that STAND .. are UNDONE with it");
        AdvertCouncil x = chain(5);
        c.due("two of FIRM 1 are VOID", x.kin(0, 1), 2);
        c.due("the first alone: what hung on it is VOID", x.appeal(0, true), 1);
        states(x, "behind it", 2, 1, 0, 1, 0);
        x = chain(5);
        c.due("the third", x.appeal(2, true), 3);
        c.due("the first: the second with it", x.appeal(0, true), 2);
        states(x, "behind it", 2, 2, 2, 2, 2);
    }

    private static void undoneLater() {
        c.sentence("33", "how many are UNDONE by that: appealed before, or their DAYS over");
        AdvertCouncil x = oneClaim(4);
        x.decide(0, 0, 7, 0);
        x.decide(0, 0, 7, 0);
        x.appeal(1, false);
        c.due("one of them was appealed", x.appeal(0, true), 2);
        states(x, "behind it", 2, 2);
        x.decide(0, 0, 7, 0);
        c.due("none is BINDING for a new one", x.ruling(2, 8), -1);
        x.days(21);
        x.decide(0, 0, 0, 7);
        c.due("one that doesn't BAR hangs, too", x.appeal(2, true), 2);
        states(x, "behind it", 2, 2, 2, 2);
    }

    private static void stepAdds() {
        c.sentence("T4", "each adds 1, or 2 if it was said AGAIN");
        AdvertCouncil x = panel(3, 100, 90, 80);
        Check.advert(x, 0, 0, 1);
        c.due("none", x.step(0), 0);
        x.decide(0, 0, 7, 0);
        c.due("1", x.step(0), 1);
        x.decide(0, 1, 7, 0);
        c.due("a less NUMBER: 1 more", x.step(0), 2);
        x.decide(0, 2, 7, 0);
        c.due("a still less one: 1 more", x.step(0), 3);
        x.decide(0, 0, 7, 0);
        c.due("AGAIN: 2 more", x.step(0), 5);
    }

    private static void stepFive() {
        c.sentence("T4", "5 at most");
        AdvertCouncil x = oneClaim(3);
        int[] due = {1, 3, 5, 5, 5};
        for (int n = 0; n < due.length; n++) {
            x.decide(0, 0, 7, 0);
            c.due("of " + (n + 1), x.step(0), due[n]);
        }
        x.days(360);
        c.due("no more than 5 are kept", x.step(0), 4);
        x.decide(0, 0, 7, 0);
        c.due("4 and 2", x.step(0), 5);
        AdvertCouncil ones = panel(3, 100, 90, 80, 70, 60, 50);
        Check.advert(ones, 0, 0, 1);
        for (int n = 0; n < 6; n++) {
            ones.decide(0, n, 7, 0);
            c.due("ones: " + (n + 1), ones.step(0), Math.min(5, n + 1));
        }
    }

    private static void stepFalls() {
        c.sentence("T4", "(and from the last to NOW) it falls by 1 for each whole 360 DAYS");
        AdvertCouncil x = oneClaim(3);
        x.days(50);
        for (int n = 0; n < 3; n++) {
            x.decide(0, 0, 7, 0);
        }
        int[] days = {359, 1, 359, 1, 360, 719, 1, 360};
        int[] due = {5, 4, 4, 3, 2, 1, 0, 0};
        for (int n = 0; n < days.length; n++) {
            x.days(days[n]);
            c.due("on DAY " + x.status(10), x.step(0), due[n]);
        }
    }

    private static void stepBetween() {
        c.sentence("T4", "between one and the next .. it falls by 1 for each whole 360 DAYS");
        int[] gaps = {0, 359, 360, 361, 719, 720};
        int[] due = {5, 5, 4, 4, 4, 3};
        for (int n = 0; n < gaps.length; n++) {
            AdvertCouncil x = panel(3, 100, 90);
            Check.advert(x, 0, 0, 1);
            x.days(7);
            x.decide(0, 1, 7, 0);
            x.decide(0, 1, 7, 0);
            x.decide(0, 1, 0, 7);
            if (gaps[n] > 0) {
                x.days(gaps[n]);
            }
            x.decide(0, 0, 7, 0);
            c.due("behind " + gaps[n] + " DAYS", x.step(0), due[n]);
        }
        AdvertCouncil rest = oneClaim(3);
        rest.decide(0, 0, 7, 0);
        rest.decide(0, 0, 7, 0);
        rest.days(300);
        rest.decide(0, 0, 7, 0);
        rest.days(300);
        c.due("300 and 300 are no 360", rest.step(0), 5);
    }

    private static void stepNotBelow() {
        c.sentence("T4", "0 at least");
        AdvertCouncil x = oneClaim(3);
        x.decide(0, 0, 7, 0);
        Check.daysOn(x, 3600);
        c.due("far behind", x.step(0), 0);
        x.decide(0, 0, 7, 0);
        c.due("from 0, AGAIN", x.step(0), 2);
        AdvertCouncil late = oneClaim(3);
        Check.daysOn(late, 9000);
        c.due("none, on the last DAY", late.step(0), 0);
        late.decide(0, 0, 7, 0);
        c.due("the first, on the last DAY", late.step(0), 1);
    }

    private static void stepOfThose() {
        c.sentence("T4", "its RULINGS that STAND and BAR");
        AdvertCouncil x = panel(4, 100, 200);
        Check.advert(x, 0, 0, 1);
        Check.advert(x, 0, 1, 1);
        x.decide(0, 0, 0, 7);
        c.due("one that doesn't BAR", x.step(0), 0);
        x.decide(1, 1, 7, 0);
        x.decide(0, 0, 14, 0);
        c.due("two", x.step(0), 2);
        x.appeal(1, true);
        c.due("one UNDONE", x.step(0), 1);
        x.kin(3, 0);
        c.due("one VOID", x.step(0), 0);
        AdvertCouncil between = oneClaim(3);
        between.decide(0, 0, 7, 0);
        between.decide(0, 0, 7, 0);
        between.days(200);
        between.decide(0, 0, 0, 7);
        between.days(159);
        c.due("359 DAYS", between.step(0), 3);
        between.days(1);
        c.due("360 DAYS, whatever stands between", between.step(0), 2);
    }

    private static void stepFirms() {
        c.sentence("34", "STEP of a FIRM NOW. NONE.");
        AdvertCouncil x = panel(3, 100);
        Check.advert(x, 0, 0, 1);
        Check.advert(x, 11, 0, 1);
        x.decide(0, 0, 7, 0);
        x.decide(1, 0, 7, 0);
        x.decide(1, 0, 7, 0);
        int[] due = {-1, 1, 0, 0, 0, 0, 0, 0, 0, 0, 0, 0, 3, -1};
        for (int firm = -1; firm <= 12; firm++) {
            c.due("step(" + firm + ")", x.step(firm), due[firm + 1]);
        }
        c.due("no refusals", x.status(11), 0);
    }
}
