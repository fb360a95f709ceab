import java.lang.management.ManagementFactory;

/**
 * All calls of a run live in one room of some 600,000 objects and 7.3 million fields and elements, so a council
 * is made small and a call makes little: told by the bytes that the Java machine gives out (an object has 16 of
 * them at least, a field or an element one at least). A full council has answered some 290 calls before the 200.
 */
public final class RoomTest {
    private static final int CALLS = 200;
    private static final int A_COUNCIL = 16000;
    private static final int A_RUN = 78000;

    private static final Check c = new Check("RoomTest");
    private static final com.sun.management.ThreadMXBean GIVEN =
        (com.sun.management.ThreadMXBean) ManagementFactory.getThreadMXBean();

    private interface Call {
        long on(AdvertCouncil x);
    }

    public static void main(String[] args) {
        if (!GIVEN.isThreadAllocatedMemorySupported() || !GIVEN.isThreadAllocatedMemoryEnabled()) {
            c.due("this Java machine doesn't tell what it gives out", 0, 0);
            c.end();
            return;
        }
        council();
        telling();
        reading();
        ruling();
        leastChange();
        c.end();
    }

    private static void council() {
        new AdvertCouncil();
        long before = bytes();
        AdvertCouncil x = new AdvertCouncil();
        long made = bytes() - before;
        c.due("a new council takes little room: " + made, made < A_COUNCIL && x.status(0) == 0 ? 1 : 0, 1);
    }

    private static long bytes() {
        return GIVEN.getThreadAllocatedBytes(Thread.currentThread().getId());
    }

    /** The first round loads what the Java machine itself needs for a call; the second counts. */
    private static void run(String name, Call call) {
        for (boolean full : new boolean[] {false, true}) {
            long made = 0;
            for (int round = 0; round < 2; round++) {
                AdvertCouncil x = full ? House.full() : House.made();
                long before = bytes();
                for (int n = 0; n < CALLS; n++) {
                    call.on(x);
                }
                made = bytes() - before;
            }
            c.due(name + (full ? ", full: " : ": ") + made, made < A_RUN ? 1 : 0, 1);
        }
    }

    private static void telling() {
        run("row", x -> x.row(House.BYTES, 3, 60));
        run("set", x -> x.set(House.SIXTY, 59, 7));
        run("copy", x -> x.copy(House.SIXTY, House.SIXTY, 0, 1, 59));
        run("advert", x -> x.advert(0, 0, House.BYTES));
        run("print", x -> x.print(0, House.BYTES, 5));
        run("phrase", x -> x.phrase(House.BYTES, 1, 2040, 0));
        run("proof", x -> x.proof(0, 0, House.SIXTY));
        run("measure", x -> x.measure(0, 50));
        run("rule", x -> x.rule(House.RULE, 0));
        run("rule, a FAULT", x -> x.rule(House.BYTES, 0));
        run("seat", x -> x.seat(0));
        run("stop", x -> x.stop(5, 0, true));
        run("saw", x -> x.saw(0, 1, 1));
    }

    private static void reading() {
        run("claims", x -> x.claims(0, 100, 100));
        run("claim", x -> x.claim(0, 0, 7));
        run("keep", x -> x.keep(House.CLAIM, 0, 0));
        run("says", x -> x.says(House.CLAIM, 1));
        run("results", x -> x.results(1, 2, 100, 1));
        run("bars", x -> x.bars(0, 0, 100, 100));
        run("beside", x -> x.beside(3));
        run("element", x -> x.element(House.SIXTY, 59));
        run("holds", x -> x.holds(House.CLAIM));
        run("about", x -> x.about(0, 2));
        run("status", x -> x.status(7));
    }

    private static void ruling() {
        run("decide", x -> x.decide(0, 0, 7, 0));
        run("ruling", x -> x.ruling(0, 8));
        run("kin", x -> x.kin(0, 5));
        run("like", x -> x.like(0, 0, 1));
        run("apart", x -> x.apart(0, 0, 1));
        run("binding", x -> x.binding(0, 0));
        run("clash", x -> x.clash(0, 0));
        run("appeal", x -> x.appeal(1, true));
        run("step", x -> x.step(1));
    }

    private static void leastChange() {
        run("least", x -> x.least(0));
        run("judge", x -> x.judge(0, House.BYTES));
    }
}
