import java.lang.reflect.Method;
import java.lang.reflect.Modifier;
import java.util.ArrayList;
import java.util.List;
import java.util.Map;
import java.util.TreeMap;

/**
 * Runs of up to 512 calls on fresh objects, the class against the Oracle. The numbers come from a fixed
 * sequence, so each run of this test is the same.
 */
public final class RandomRunsTest {
    private static final int RUNS = Integer.getInteger("runs", 1500);
    private static final int CALLS = 500;
    private static final int[] ODD = {
        -2, -1, 0, 1, 2, 8, 9, 12, 13, 16, 20, 21, 40, 61, 101, 4096, 9001, Integer.MIN_VALUE, Integer.MAX_VALUE,
    };

    private long seed;
    private AdvertCouncil own;
    private Oracle due;
    private int calls;
    private final List<String> told = new ArrayList<>();
    private final Map<String, Method> ownMethods = methods(AdvertCouncil.class);
    private final Map<String, Method> dueMethods = methods(Oracle.class);
    private final Map<String, int[]> answers = new TreeMap<>();

    public static void main(String[] args) throws Exception {
        RandomRunsTest test = new RandomRunsTest();
        for (int run = 0; run < RUNS; run++) {
            test.run(run);
        }
        for (Map.Entry<String, int[]> entry : test.answers.entrySet()) {
            int[] count = entry.getValue();
            if (Boolean.getBoolean("counts")) {
                System.out.println(entry.getKey() + " refused or none " + count[0] + ", answered " + count[1]);
            }
        }
        if (test.answers.size() != 40 + 4) {
            System.out.println("RandomRunsTest: not each of the 40 methods was called");
            System.exit(1);
        }
        System.out.println("RandomRunsTest: " + RUNS + " runs, all answers as due");
    }

    private static Map<String, Method> methods(Class<?> of) {
        Map<String, Method> all = new TreeMap<>();
        for (Method method : of.getDeclaredMethods()) {
            if (Modifier.isPublic(method.getModifiers())) {
                all.put(method.getName(), method);
            }
        }
        return all;
    }

    private int below(int n) {
        seed = seed * 6364136223846793005L + 1442695040888963407L;
        return (int) ((seed >>> 33) % n);
    }

    private boolean oneIn(int n) {
        return below(n) == 0;
    }

    private int odd() {
        return ODD[below(ODD.length)];
    }

    /** One of 0 to n - 1, or now and then something odd. */
    private int some(int n) {
        return oneIn(25) || n <= 0 ? odd() : below(n);
    }

    private long call(String name, Object... args) throws Exception {
        calls++;
        long got = ((Number) ownMethods.get(name).invoke(own, args)).longValue();
        long want = ((Number) dueMethods.get(name).invoke(due, args)).longValue();
        told.add(name + List.of(args) + " " + got);
        answers.computeIfAbsent(name, n -> new int[2])[got < 0 ? 0 : 1]++;
        if (got != want) {
            for (String line : told) {
                System.out.println(line);
            }
            System.out.println("RandomRunsTest: the last call is due " + want);
            System.exit(1);
        }
        return got;
    }

    private void run(int run) throws Exception {
        seed = 77777L * run + 5;
        own = new AdvertCouncil();
        due = new Oracle();
        calls = 0;
        told.clear();
        int look = 60 + below(200);
        int firms = 1 + below(4);
        int words = 1 + below(4);
        begin(firms, words);
        while (calls < CALLS - look) {
            tell(firms, words);
        }
        while (calls < CALLS) {
            ask(firms);
        }
        for (int what = 6; what <= 9; what++) {
            call("status", what);
            answers.computeIfAbsent("rulings of status " + what, n -> new int[2])[1] += due.status(what);
        }
    }

    /** So much that most calls find something: seats, claims, and rulings that may bind. */
    private void begin(int firms, int words) throws Exception {
        for (int n = 3 + below(6); n > 0; n--) {
            call("seat", oneIn(4) ? 1 << below(4) : 0);
        }
        for (int n = below(5); n > 0; n--) {
            fill(0, 0, 1, words);
            call("phrase", 0, some(6), 1000 * below(2) + 5 * below(8), 0);
        }
        for (int n = below(4); n > 0; n--) {
            fill(0, 0, below(10), words);
            call("advert", below(firms), below(2), 0);
        }
        for (int n = below(12); n > 0; n--) {
            votes();
            if (oneIn(4)) {
                call("days", 1 + below(oneIn(6) ? 500 : 12));
            }
        }
    }

    private void fill(int s, int sort, int n, int words) throws Exception {
        call("row", s, sort, n);
        for (int i = 0; i < n; i++) {
            if (!oneIn(8)) {
                call("set", s, i, (long) below(words));
            }
        }
    }

    private void tell(int firms, int words) throws Exception {
        int s = below(8);
        switch (below(24)) {
            case 0:
                call("row", some(8), some(4), some(20));
                break;
            case 1:
                call("set", some(8), some(10), (long) odd() << 3 * below(12));
                break;
            case 2:
                call("copy", some(8), some(8), some(6), some(6), some(6));
                break;
            case 3:
            case 4:
                fill(s, below(4), below(oneIn(4) ? 21 : 9), words);
                call("advert", some(firms), some(3), oneIn(9) ? some(8) : s);
                break;
            case 5:
                fill(s, below(4), below(5), words);
                call("print", advert(), s, some(21));
                break;
            case 6:
                call("saw", advert(), some(5000), some(5000));
                break;
            case 7:
            case 8:
                fill(s, below(4), oneIn(9) ? below(8) : 1 + below(2), words);
                call("phrase", s, some(6), 1000 * some(2) + 5 * below(8), oneIn(2) ? 0 : some(40));
                break;
            case 9:
                if (oneIn(3)) {
                    call("unphrase", some(due.status(1)));
                }
                break;
            case 10:
                call("keep", some(8), oneIn(3) ? -1 : advert(), some(4));
                break;
            case 11:
            case 12:
                results(s);
                call("proof", some(firms), some(2), s);
                break;
            case 13:
                call("measure", some(2), 1 + some(100));
                break;
            case 14:
            case 15:
                text(s);
                call("rule", s, oneIn(2) ? 0 : some(60));
                call("fault");
                break;
            case 16:
                if (oneIn(3)) {
                    call("strike", some(due.status(3)));
                }
                break;
            case 17:
                call("seat", oneIn(2) ? 0 : some(4096));
                break;
            case 18:
            case 19:
            case 20:
                votes();
                break;
            case 21:
                call("kin", some(due.status(4)), some(firms));
                break;
            case 22:
                call("appeal", due.status(5) - 1 - below(6), oneIn(2));
                break;
            default:
                call("days", oneIn(8) ? 100 + some(901) : 1 + some(9));
                call("stop", some(8), advert(), oneIn(2));
                break;
        }
    }

    private int advert() {
        return some(due.status(0));
    }

    private void results(int s) throws Exception {
        int sort = below(4);
        int n = below(6);
        call("row", s, sort, n);
        for (int i = 0; i < n; i++) {
            long least = -1L << (8 << sort) - 1;
            call("set", s, i, oneIn(5) ? least : oneIn(6) ? least + below(3) : below(40));
        }
    }

    private void votes() throws Exception {
        int seats = (1 << due.status(4)) - 1;
        int votes = (oneIn(3) ? below(512) : below(512) | below(512)) & seats;
        int not = (oneIn(2) ? below(512) : below(512) & below(512)) & votes;
        if (oneIn(12)) {
            call("decide", advert(), some(5), votes, some(32));
        } else {
            call("decide", advert(), below(4), votes & ~not, not);
        }
    }

    private void text(int s) throws Exception {
        StringBuilder text = new StringBuilder("b:");
        expr(text, 0);
        while (oneIn(3) && text.length() > 0) {
            String letters = "b:knsmpclazy0123456789()!&|<>=";
            int at = below(text.length());
            if (oneIn(3)) {
                text.deleteCharAt(at);
            } else if (oneIn(2)) {
                text.insert(at, letters.charAt(below(letters.length())));
            } else {
                text.setCharAt(at, letters.charAt(below(letters.length())));
            }
        }
        int n = Math.min(60, text.length());
        call("row", s, below(4), n);
        for (int i = 0; i < n; i++) {
            call("set", s, i, (long) text.charAt(i));
        }
    }

    private void expr(StringBuilder text, int depth) {
        int parts = oneIn(3) ? 1 + below(3) : 1;
        for (int n = 0; n < parts; n++) {
            text.append(n == 0 ? "" : oneIn(2) ? "|" : "&");
            if (oneIn(5)) {
                text.append('!');
            }
            if (oneIn(5) && depth < 4) {
                text.append('(');
                expr(text, depth + 1);
                text.append(')');
            } else {
                text.append(field()).append("<>=".charAt(below(3))).append(oneIn(6) ? field() : number());
            }
        }
    }

    private String field() {
        return oneIn(9) ? number() : "" + "knsmpclazy".charAt(below(10));
    }

    private String number() {
        return "" + below(oneIn(3) ? 50 : 3);
    }

    private int day() {
        return oneIn(3) ? due.status(10) : some(due.status(10) + 30);
    }

    private void ask(int firms) throws Exception {
        switch (below(24)) {
            case 0:
                call("element", some(8), some(6));
                break;
            case 1:
                call("holds", some(8));
                break;
            case 2:
                if (oneIn(2)) {
                    call("keep", 3, advert(), below(4));
                    call("holds", 3);
                }
                call("says", oneIn(3) ? some(8) : 3, oneIn(3) ? below(2) : some(6));
                break;
            case 3:
                call("about", advert(), some(8));
                break;
            case 4:
                call("claims", advert(), day(), day());
                break;
            case 5:
            case 6:
                call("claim", advert(), some(6), some(8));
                break;
            case 7:
                call("results", some(firms), some(3), day(), some(2));
                break;
            case 8:
            case 9:
            case 10:
                call("bars", advert(), some(6), day(), day());
                break;
            case 11:
                call("ruling", some(due.status(5)), some(11));
                break;
            case 12:
                call("like", advert(), some(6), some(3));
                break;
            case 13:
                call("apart", some(due.status(5)), advert(), some(6));
                break;
            case 14:
                call("binding", advert(), some(6));
                break;
            case 15:
                call("clash", advert(), some(6));
                break;
            case 16:
                call("step", some(firms));
                break;
            case 17:
                if (oneIn(4)) {
                    call("least", advert());
                }
                break;
            case 18:
                call("leastSet");
                break;
            case 19:
                call("judge", advert(), some(8));
                break;
            case 20:
                call("beside", some(1 << due.status(3)));
                break;
            case 21:
                call("stopped", some(8), advert(), oneIn(2));
                break;
            case 22:
                call("status", some(18));
                break;
            default:
                call("appeal", some(due.status(5)), oneIn(2));
                break;
        }
    }
}
