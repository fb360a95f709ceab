import java.math.BigInteger;
import java.util.ArrayDeque;
import java.util.ArrayList;
import java.util.Arrays;
import java.util.Comparator;
import java.util.Deque;
import java.util.List;
import java.util.Objects;
import java.util.TreeSet;
import java.util.stream.Collectors;
import java.util.stream.IntStream;

/**
 * The document once more, told another way (slow, with the whole Java library, nothing kept that can be
 * worked out anew), so that random runs can put the class against it.
 */
public final class Oracle {
    private static final class Refusal extends RuntimeException {
        private static final long serialVersionUID = 1;
        final int number;

        Refusal(int number) {
            super(null, null, false, false);
            this.number = number;
        }
    }

    private record Row(int sort, long[] cells) {
        int[] ints() {
            return Arrays.stream(cells).mapToInt(v -> (int) v).toArray();
        }
    }

    private record Time(int from, int told) { }

    private record Phrase(int[] words, int kind, int subject, int number, Time time) { }

    private record Claim(int phrase, Phrase by, int place) { }

    private record Proof(int firm, int subject, int day, Row row) { }

    private record Rule(String text, Time time) { }

    private static final class Advert {
        int firm, medium, day, size, children, others;
        int[] words, print = {};
        int[][] papers = new int[8][];
    }

    private static final class Ruling {
        int firm, medium, day, bar, not, bound, state, counted;
        Phrase on;
        boolean bars, again, appealed;
    }

    private final Object[] shelves = new Object[8];
    private final List<Advert> adverts = new ArrayList<>();
    private final List<Phrase> phrases = new ArrayList<>();
    private final List<Integer> phraseEnds = new ArrayList<>();
    private final List<Proof> proofs = new ArrayList<>();
    private final List<Rule> rules = new ArrayList<>();
    private final List<Integer> ruleEnds = new ArrayList<>();
    private final List<Integer> seats = new ArrayList<>();
    private final List<Ruling> rulings = new ArrayList<>();
    private final int[] refused = new int[8];
    private final int[] measures = {50, 10};
    private int now = 0;
    private int fault = -1;
    private int set = 0;

    private interface Call {
        int answer();
    }

    private int told(Call call) {
        try {
            return call.answer();
        } catch (Refusal r) {
            refused[-r.number]++;
            return r.number;
        }
    }

    private static void need(boolean is, int otherwise) {
        if (!is) {
            throw new Refusal(otherwise);
        }
    }

    private static boolean within(int v, int low, int high) {
        return low <= v && v <= high;
    }

    private static boolean in(int n, List<?> list) {
        return within(n, 0, list.size() - 1);
    }

    private Row wanted(int s) {
        need(!(shelves[s] instanceof Claim), -2);
        need(shelves[s] != null, -3);
        return (Row) shelves[s];
    }

    private static void needShelf(int s) {
        need(within(s, 0, 7), -1);
    }

    private void needAdvert(int n) {
        need(in(n, adverts), -1);
    }

    public int days(int n) {
        return told(() -> {
            need(within(n, 1, 1000) && now + n <= 9000, -6);
            return now += n;
        });
    }

    public int row(int s, int sort, int n) {
        return told(() -> {
            needShelf(s);
            need(n >= 0, -4);
            need(within(sort, 0, 3), -6);
            need(n <= 60, -7);
            shelves[s] = new Row(sort, new long[n]);
            return 1;
        });
    }

    public int set(int s, int i, long v) {
        return told(() -> {
            needShelf(s);
            Row row = wanted(s);
            need(within(i, 0, row.cells.length - 1), -5);
            row.cells[i] = switch (row.sort) {
                case 0 -> (byte) v;
                case 1 -> (short) v;
                case 2 -> (int) v;
                default -> v;
            };
            return 1;
        });
    }

    public int copy(int p, int q, int i, int j, int n) {
        return told(() -> {
            needShelf(p);
            needShelf(q);
            need(!(shelves[p] instanceof Claim) && !(shelves[q] instanceof Claim), -2);
            if (shelves[p] instanceof Row a && shelves[q] instanceof Row b) {
                need(a.sort == b.sort, -2);
            }
            Row a = wanted(p);
            Row b = wanted(q);
            need(n >= 0, -4);
            need(i >= 0 && j >= 0 && (long) i + n <= a.cells.length && (long) j + n <= b.cells.length, -5);
            long[] ahead = a.cells.clone();
            for (int m = 0; m < n; m++) {
                b.cells[j + m] = ahead[i + m];
            }
            return 1;
        });
    }

    public long element(int s, int i) {
        return within(s, 0, 7) && shelves[s] instanceof Row row && within(i, 0, row.cells.length - 1) ? row.cells[i] : 0;
    }

    public int holds(int s) {
        if (!within(s, 0, 7) || shelves[s] == null) {
            return -1;
        }
        return shelves[s] instanceof Claim claim ? claim.phrase : 100 + ((Row) shelves[s]).sort;
    }

    public int says(int s, int kind) {
        return told(() -> {
            needShelf(s);
            need(within(kind, 0, 5), -1);
            if (shelves[s] == null) {
                throw new Refusal(-3);
            }
            need(shelves[s] instanceof Claim, -2);
            Phrase by = ((Claim) shelves[s]).by;
            List<Integer> kinds = by.kind == 5 ? List.of(5, 1, 0) : List.of(by.kind, 0);
            need(kinds.contains(kind), -2);
            return new int[] {by.subject, by.number, by.number % 12, 0, 0, 1000 + by.number}[kind];
        });
    }

    public int advert(int firm, int medium, int s) {
        return told(() -> {
            need(within(firm, 0, 11), -1);
            needShelf(s);
            Row row = wanted(s);
            need(within(medium, 0, 5) && row.cells.length <= 20, -6);
            need(adverts.size() < 24, -7);
            Advert ad = new Advert();
            ad.firm = firm;
            ad.medium = medium;
            ad.words = row.ints();
            ad.day = now;
            adverts.add(ad);
            return adverts.size() - 1;
        });
    }

    public int print(int advert, int s, int size) {
        return told(() -> {
            needAdvert(advert);
            needShelf(s);
            Row row = wanted(s);
            need(within(size, 0, 20) && row.cells.length <= 12, -6);
            Advert ad = adverts.get(advert);
            int before = ad.size;
            ad.size = size;
            ad.print = row.ints();
            return before;
        });
    }

    public int saw(int advert, int children, int others) {
        return told(() -> {
            needAdvert(advert);
            need(within(children, 0, 9999) && within(others, 0, 9999), -6);
            Advert ad = adverts.get(advert);
            need(ad.children + children <= 9999 && ad.others + others <= 9999, -7);
            ad.children += children;
            ad.others += others;
            return ad.children + ad.others;
        });
    }

    public int about(int advert, int what) {
        if (!in(advert, adverts) || !within(what, 0, 7)) {
            return -1;
        }
        Advert ad = adverts.get(advert);
        return new int[] {
            ad.firm, ad.medium, ad.words.length, ad.print.length, ad.size, ad.children, ad.others, ad.day,
        }[what];
    }

    public int phrase(int s, int kind, int is, int from) {
        return told(() -> {
            needShelf(s);
            need(within(kind, 0, 5), -1);
            Row row = wanted(s);
            need(within(row.cells.length, 1, 6) && within(is, 0, 15999) && within(from, 0, 9000), -6);
            need(phrases.size() < 20, -7);
            phrases.add(new Phrase(row.ints(), kind, is / 1000, is % 1000, new Time(from, now)));
            phraseEnds.add(null);
            return phrases.size() - 1;
        });
    }

    private int end(List<Integer> ends, int n) {
        return told(() -> {
            need(in(n, ends), -1);
            need(ends.get(n) == null, -6);
            ends.set(n, now);
            return 1;
        });
    }

    public int unphrase(int phrase) {
        return end(phraseEnds, phrase);
    }

    private static boolean inForce(Time time, Integer end, int a, int k) {
        return time.from <= a && time.told <= k && (end == null || end > Math.min(a, k));
    }

    private static List<Integer> list(int[] words) {
        return Arrays.stream(words).boxed().collect(Collectors.toList());
    }

    private List<Claim> read(List<Integer> words, int a, int k) {
        List<Claim> all = new ArrayList<>();
        for (int place = 0; place < words.size(); place++) {
            for (int q = 0; q < phrases.size(); q++) {
                Phrase p = phrases.get(q);
                if (p.kind != 3 && inForce(p.time, phraseEnds.get(q), a, k) && place + p.words.length <= words.size()
                    && words.subList(place, place + p.words.length).equals(list(p.words))) {
                    all.add(new Claim(q, p, place));
                }
            }
        }
        return all.subList(0, Math.min(24, all.size()));
    }

    private Claim claimOf(int advert, int i, int a, int k) {
        if (!in(advert, adverts) || a < 0 || k < 0) {
            return null;
        }
        List<Claim> all = read(list(adverts.get(advert).words), a, k);
        return in(i, all) ? all.get(i) : null;
    }

    public int claims(int advert, int a, int k) {
        return !in(advert, adverts) || a < 0 || k < 0 ? -1 : read(list(adverts.get(advert).words), a, k).size();
    }

    private boolean back(Advert ad, Phrase said, int a, int k) {
        for (int q = 0; q < phrases.size(); q++) {
            Phrase p = phrases.get(q);
            if (p.kind == 3 && p.subject == said.subject && inForce(p.time, phraseEnds.get(q), a, k)
                && java.util.Collections.indexOfSubList(list(ad.print), list(p.words)) >= 0) {
                return true;
            }
        }
        return false;
    }

    private List<Proof> proofsOf(int firm, int subject, int k) {
        return proofs.stream().filter(p -> p.firm == firm && p.subject == subject && p.day <= k).toList();
    }

    private List<Integer> given(int firm, int subject, int k) {
        long[] least = {Byte.MIN_VALUE, Short.MIN_VALUE, Integer.MIN_VALUE, Long.MIN_VALUE};
        List<Integer> all = new ArrayList<>();
        for (Proof p : proofsOf(firm, subject, k)) {
            for (long v : p.row.cells) {
                if (v != least[p.row.sort]) {
                    all.add((int) v);
                }
            }
        }
        return all;
    }

    private static BigInteger sum(List<Integer> all) {
        return all.stream().map(BigInteger::valueOf).reduce(BigInteger.ZERO, BigInteger::add);
    }

    private boolean borne(int firm, Phrase said, int k) {
        List<Integer> own = given(firm, said.subject, k);
        switch (said.kind) {
            case 0:
                return !proofsOf(firm, said.subject, k).isEmpty();
            case 1:
            case 5:
                long good = own.stream().filter(v -> v >= said.number).count();
                return !own.isEmpty() && good * 100 >= (long) measures[said.kind == 1 ? 0 : 1] * own.size();
            case 2:
                List<Integer> other = given(said.number % 12, said.subject, k);
                return !own.isEmpty() && !other.isEmpty()
                    && sum(own).multiply(BigInteger.valueOf(other.size()))
                        .compareTo(sum(other).multiply(BigInteger.valueOf(own.size()))) > 0;
            default:
                return true;
        }
    }

    private boolean again(int firm, Phrase said, int a, int k) {
        return rulings.stream().anyMatch(r -> r.state == 0 && r.bars && r.firm == firm && r.on.kind == said.kind
            && r.on.subject == said.subject && r.on.number <= said.number && r.day <= Math.min(a, k));
    }

    public int claim(int advert, int i, int what) {
        Claim claim = claimOf(advert, i, now, now);
        if (claim == null || !within(what, 0, 7)) {
            return -1;
        }
        Advert ad = adverts.get(advert);
        Phrase p = claim.by;
        return new int[] {
            p.kind, p.subject, p.number, claim.place, claim.phrase, back(ad, p, now, now) ? 1 : 0,
            borne(ad.firm, p, now) ? 1 : 0, again(ad.firm, p, now, now) ? 1 : 0,
        }[what];
    }

    public int keep(int s, int advert, int i) {
        return told(() -> {
            needShelf(s);
            if (advert == -1) {
                shelves[s] = null;
                return -1;
            }
            Claim claim = claimOf(advert, i, now, now);
            need(claim != null, -1);
            shelves[s] = claim;
            return claim.by.kind;
        });
    }

    public int proof(int firm, int subject, int s) {
        return told(() -> {
            need(within(firm, 0, 11), -1);
            needShelf(s);
            Row row = wanted(s);
            need(within(subject, 0, 15), -6);
            need(proofs.size() < 40, -7);
            proofs.add(new Proof(firm, subject, now, new Row(row.sort, row.cells.clone())));
            return proofs.size() - 1;
        });
    }

    public long results(int firm, int subject, int k, int what) {
        if (!within(firm, 0, 11) || !within(subject, 0, 15) || !within(what, 0, 1)) {
            return -10000000;
        }
        List<Integer> all = given(firm, subject, k);
        return what == 0 ? all.size() : sum(all).longValueExact();
    }

    public int measure(int what, int n) {
        return told(() -> {
            need(within(what, 0, 1) && within(n, 1, 100), -6);
            int before = measures[what];
            measures[what] = n;
            return before;
        });
    }

    public int rule(int s, int from) {
        return told(() -> {
            needShelf(s);
            Row row = wanted(s);
            need(within(from, 0, 9000), -6);
            StringBuilder text = new StringBuilder();
            for (int letter : row.ints()) {
                text.append(within(letter, 0, 127) ? (char) letter : '?');
            }
            fault = faultOf(text.toString());
            need(fault == -1, -6);
            need(rules.size() < 16, -7);
            rules.add(new Rule(text.toString(), new Time(from, now)));
            ruleEnds.add(null);
            return rules.size() - 1;
        });
    }

    /** A machine with a stack of what is open, letter by letter; wanting: a part, a sign, a right side, what joins. */
    private static int faultOf(String text) {
        Deque<Character> open = new ArrayDeque<>();
        String wanting = "b";
        String number = "";
        for (int at = 0; at < text.length(); at++) {
            char ch = text.charAt(at);
            boolean digit = ch >= '0' && ch <= '9';
            boolean grows = digit && !number.isEmpty() && !number.equals("0") && number.length() < 4;
            boolean side = "knsmpclazy".indexOf(ch) >= 0 || digit;
            if (wanting.equals("b") && ch == 'b') {
                wanting = ":";
            } else if (wanting.equals(":") && ch == ':') {
                wanting = "part";
            } else if (wanting.equals("part") && (ch == '(' || ch == '!') && open.size() < 20) {
                open.push(ch);
            } else if (wanting.equals("part") && side) {
                wanting = "sign";
                number = digit ? "" + ch : "";
            } else if (wanting.equals("sign") && grows || wanting.equals("join") && grows) {
                number += ch;
            } else if (wanting.equals("sign") && (ch == '<' || ch == '>' || ch == '=')) {
                wanting = "right";
            } else if (wanting.equals("right") && side) {
                wanting = "join";
                number = digit ? "" + ch : "";
            } else if (wanting.equals("join") && (ch == '&' || ch == '|' || ch == ')')) {
                while (!open.isEmpty() && open.peek() == '!') {
                    open.pop();
                }
                if (ch == ')') {
                    if (open.isEmpty()) {
                        return at;
                    }
                    open.pop();
                    number = "";
                } else {
                    wanting = "part";
                }
            } else {
                return at;
            }
        }
        return wanting.equals("join") && !open.contains('(') ? -1 : text.length();
    }

    public int fault() {
        return fault;
    }

    public int strike(int rule) {
        return end(ruleEnds, rule);
    }

    private int hundredth(Advert ad) {
        return ad.children + ad.others == 0 ? 0 : 100 * ad.children / (ad.children + ad.others);
    }

    /** Whether a text holds: taken apart at the outermost | first, then at &. */
    private boolean holds(String text, Advert ad, Phrase p, int a, int k) {
        for (char join : new char[] {'|', '&'}) {
            int depth = 0;
            for (int at = text.length() - 1; at >= 0; at--) {
                depth += text.charAt(at) == ')' ? 1 : text.charAt(at) == '(' ? -1 : 0;
                if (depth == 0 && text.charAt(at) == join) {
                    boolean left = holds(text.substring(0, at), ad, p, a, k);
                    boolean right = holds(text.substring(at + 1), ad, p, a, k);
                    return join == '|' ? left || right : left && right;
                }
            }
        }
        if (text.startsWith("!")) {
            return !holds(text.substring(1), ad, p, a, k);
        }
        if (text.startsWith("(")) {
            return holds(text.substring(1, text.length() - 1), ad, p, a, k);
        }
        int at = IntStream.range(0, text.length()).filter(n -> "<>=".indexOf(text.charAt(n)) >= 0).findFirst().getAsInt();
        int left = side(text.substring(0, at), ad, p, a, k);
        int right = side(text.substring(at + 1), ad, p, a, k);
        return switch (text.charAt(at)) {
            case '<' -> left < right;
            case '>' -> left > right;
            default -> left == right;
        };
    }

    private int side(String text, Advert ad, Phrase p, int a, int k) {
        return switch (text) {
            case "k" -> p.kind;
            case "n" -> p.number;
            case "s" -> p.subject;
            case "m" -> ad.medium;
            case "p" -> borne(ad.firm, p, k) ? 1 : 0;
            case "c" -> hundredth(ad);
            case "l" -> back(ad, p, a, k) ? 1 : 0;
            case "a" -> again(ad.firm, p, a, k) ? 1 : 0;
            case "z" -> ad.size;
            case "y" -> a / 360;
            default -> Integer.parseInt(text);
        };
    }

    private boolean holdsFor(int rule, Advert ad, Phrase p, int a, int k) {
        return holds(rules.get(rule).text.substring(2), ad, p, a, k);
    }

    private int barring(Advert ad, Phrase p, int a, int k) {
        return IntStream.range(0, rules.size())
            .filter(r -> inForce(rules.get(r).time, ruleEnds.get(r), a, k) && holdsFor(r, ad, p, a, k))
            .findFirst().orElse(-1);
    }

    public int bars(int advert, int i, int a, int k) {
        Claim claim = claimOf(advert, i, a, k);
        return claim == null ? -1 : barring(adverts.get(advert), claim.by, a, k);
    }

    public int seat(int kin) {
        return told(() -> {
            need(within(kin, 0, 4095), -1);
            need(seats.size() < 9, -7);
            seats.add(kin);
            return seats.size() - 1;
        });
    }

    private List<Integer> counting(int votes, int firm) {
        return IntStream.range(0, seats.size())
            .filter(s -> (votes & 1 << s) != 0 && (seats.get(s) & 1 << firm) == 0).boxed().toList();
    }

    private List<Integer> likes(Phrase said) {
        return IntStream.range(0, rulings.size()).filter(n -> {
            Ruling r = rulings.get(n);
            return r.state == 0 && r.on.kind == said.kind && r.on.subject == said.subject
                && within(r.on.number - said.number, -10, 10);
        }).boxed().toList();
    }

    private List<Integer> likesIn(int medium, Phrase said) {
        return likes(said).stream().filter(n -> rulings.get(n).medium == medium).toList();
    }

    private static int first(List<Integer> list) {
        return list.isEmpty() ? -1 : list.get(0);
    }

    public int decide(int advert, int i, int bar, int not) {
        return told(() -> {
            Claim claim = claimOf(advert, i, now, now);
            need(claim != null && within(bar, 0, (1 << seats.size()) - 1) && within(not, 0, (1 << seats.size()) - 1), -1);
            Advert ad = adverts.get(advert);
            need((bar & not) == 0, -6);
            Ruling r = new Ruling();
            r.counted = counting(bar, ad.firm).size() + counting(not, ad.firm).size();
            need(r.counted >= 3, -6);
            need(rulings.size() < 40, -7);
            r.firm = ad.firm;
            r.medium = ad.medium;
            r.day = now;
            r.bar = bar;
            r.not = not;
            r.on = claim.by;
            r.bars = counting(bar, ad.firm).size() > counting(not, ad.firm).size();
            r.again = again(ad.firm, claim.by, now, now);
            r.bound = first(likesIn(ad.medium, claim.by));
            rulings.add(r);
            return rulings.size() - 1;
        });
    }

    public int ruling(int ruling, int what) {
        if (!in(ruling, rulings) || !within(what, 0, 10)) {
            return -1;
        }
        Ruling r = rulings.get(ruling);
        return new int[] {
            r.firm, r.medium, r.on.kind, r.on.subject, r.on.number, r.day, r.bars ? 1 : 0, r.again ? 1 : 0,
            r.bound, r.state, r.counted,
        }[what];
    }

    public int kin(int seat, int firm) {
        return told(() -> {
            need(in(seat, seats) && within(firm, 0, 11), -1);
            need((seats.get(seat) >> firm & 1) == 0, -6);
            seats.set(seat, seats.get(seat) | 1 << firm);
            int count = 0;
            for (Ruling r : rulings) {
                if (r.state == 0 && r.firm == firm && ((r.bar | r.not) >> seat & 1) == 1) {
                    int bar = counting(r.bar, firm).size();
                    int not = counting(r.not, firm).size();
                    if (bar + not < 3 || bar > not != r.bars) {
                        r.state = 1;
                        count++;
                    }
                }
            }
            return count;
        });
    }

    public int like(int advert, int c, int i) {
        Claim claim = claimOf(advert, c, now, now);
        return claim != null && in(i, likes(claim.by)) ? likes(claim.by).get(i) : -1;
    }

    public int apart(int ruling, int advert, int c) {
        Claim claim = claimOf(advert, c, now, now);
        if (claim == null || !in(ruling, rulings)) {
            return -1;
        }
        Ruling r = rulings.get(ruling);
        Advert ad = adverts.get(advert);
        int bits = 0;
        bits += r.on.kind != claim.by.kind ? 1 : 0;
        bits += r.on.subject != claim.by.subject ? 2 : 0;
        bits += within(r.on.number - claim.by.number, -10, 10) ? 0 : 4;
        bits += r.medium != ad.medium ? 8 : 0;
        bits += r.firm != ad.firm ? 16 : 0;
        return bits;
    }

    public int binding(int advert, int c) {
        Claim claim = claimOf(advert, c, now, now);
        return claim == null ? -1 : first(likesIn(adverts.get(advert).medium, claim.by));
    }

    public int clash(int advert, int c) {
        Claim claim = claimOf(advert, c, now, now);
        if (claim == null) {
            return -1;
        }
        List<Integer> all = likesIn(adverts.get(advert).medium, claim.by);
        int pairs = 0;
        for (int one : all) {
            for (int other : all) {
                pairs += one < other && rulings.get(one).bars != rulings.get(other).bars ? 1 : 0;
            }
        }
        return pairs;
    }

    public int appeal(int ruling, boolean is) {
        return told(() -> {
            need(in(ruling, rulings), -1);
            Ruling r = rulings.get(ruling);
            need(r.state == 0 && now - r.day <= 21 && !r.appealed, -6);
            r.appealed = true;
            return is ? undo(ruling) : 0;
        });
    }

    private int undo(int ruling) {
        rulings.get(ruling).state = 2;
        int count = 1;
        for (int n = 0; n < rulings.size(); n++) {
            if (rulings.get(n).state == 0 && rulings.get(n).bound == ruling) {
                count += undo(n);
            }
        }
        return count;
    }

    public int step(int firm) {
        if (!within(firm, 0, 11)) {
            return -1;
        }
        int step = 0;
        Integer last = null;
        for (Ruling r : rulings) {
            if (r.firm == firm && r.state == 0 && r.bars) {
                for (int d = last == null ? r.day : last; d + 360 <= r.day && step > 0; d += 360) {
                    step--;
                }
                step = Math.min(5, step + (r.again ? 2 : 1));
                last = r.day;
            }
        }
        for (int d = last == null ? now : last; d + 360 <= now && step > 0; d += 360) {
            step--;
        }
        return step;
    }

    private boolean standsWithout(Advert ad, int struck) {
        List<Integer> left = IntStream.range(0, ad.words.length).filter(n -> (struck >> n & 1) == 0)
            .mapToObj(n -> ad.words[n]).toList();
        return read(left, now, now).stream().map(Claim::by).distinct().allMatch(p -> barring(ad, p, now, now) == -1);
    }

    public int least(int advert) {
        return told(() -> {
            needAdvert(advert);
            Advert ad = adverts.get(advert);
            need(ad.words.length <= 12, -7);
            set = IntStream.range(0, 1 << ad.words.length).boxed()
                .sorted(Comparator.comparing(Integer::bitCount).thenComparing(Comparator.naturalOrder()))
                .filter(s -> standsWithout(ad, s)).findFirst().orElseThrow();
            return Integer.bitCount(set);
        });
    }

    public int leastSet() {
        return set;
    }

    public int judge(int advert, int s) {
        return told(() -> {
            needAdvert(advert);
            needShelf(s);
            TreeSet<Integer> places = new TreeSet<>(list(wanted(s).ints()));
            Advert ad = adverts.get(advert);
            need(places.stream().allMatch(p -> within(p, 0, ad.words.length - 1)), -6);
            return standsWithout(ad, places.stream().mapToInt(p -> 1 << p).sum()) ? 1 : 0;
        });
    }

    public int beside(int rules) {
        if (!within(rules, 0, (1 << this.rules.size()) - 1)) {
            return -1;
        }
        return (int) adverts.stream().mapToLong(ad -> read(list(ad.words), now, now).stream()
            .filter(c -> IntStream.range(0, this.rules.size())
                .anyMatch(r -> (rules >> r & 1) == 1 && holdsFor(r, ad, c.by, now, now))).count()).sum();
    }

    public int stop(int paper, int advert, boolean did) {
        return told(() -> {
            needAdvert(advert);
            need(within(paper, 0, 7), -1);
            int[][] papers = adverts.get(advert).papers;
            if (did) {
                need(papers[paper] != null && papers[paper].length == 1, -6);
                papers[paper] = new int[] {papers[paper][0], now};
                return 2;
            }
            need(papers[paper] == null, -6);
            papers[paper] = new int[] {now};
            return 1;
        });
    }

    public int stopped(int paper, int advert, boolean did) {
        if (!in(advert, adverts) || !within(paper, 0, 7) || adverts.get(advert).papers[paper] == null) {
            return -1;
        }
        int[] days = adverts.get(advert).papers[paper];
        return did ? (days.length == 2 ? days[1] : -1) : days[0];
    }

    public int status(int what) {
        if (within(what, 11, 17)) {
            return refused[what - 10];
        }
        List<Integer> states = rulings.stream().map(r -> r.state).toList();
        return switch (what) {
            case 0 -> adverts.size();
            case 1 -> phrases.size();
            case 2 -> proofs.size();
            case 3 -> rules.size();
            case 4 -> seats.size();
            case 5 -> rulings.size();
            case 6 -> (int) states.stream().filter(s -> Objects.equals(s, 0)).count();
            case 7 -> (int) rulings.stream().filter(r -> r.state == 0 && r.bars).count();
            case 8 -> (int) states.stream().filter(s -> Objects.equals(s, 1)).count();
            case 9 -> (int) states.stream().filter(s -> Objects.equals(s, 2)).count();
            case 10 -> now;
            default -> -1;
        };
    }
}
