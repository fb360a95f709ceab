/** Counts the answers that are not due, and makes the rows that tests need. */
final class Check {
    private final String name;
    private String sentence = "";
    private int sentences = 0;
    private int looks = 0;
    private int wrong = 0;

    Check(String name) {
        this.name = name;
    }

    /** What is due from here on is due by these words of the document: a promise's number, or T1 to T5. */
    void sentence(String where, String words) {
        sentence = where + " \"" + words + "\": ";
        sentences++;
    }

    void due(String call, long got, long want) {
        looks++;
        if (got != want) {
            wrong++;
            System.out.println(name + ": " + sentence + call + " answered " + got + ", due is " + want);
        }
    }

    void end() {
        String of = sentences > 0 ? sentences + " sentences, " : "";
        System.out.println(name + ": " + of + looks + " answers, " + wrong + " not as due");
        if (wrong > 0 || looks == 0) {
            System.exit(1);
        }
    }

    /** Shelf s holds a new row of a sort with these elements. */
    static void row(AdvertCouncil x, int s, int sort, long... elements) {
        must(x.row(s, sort, elements.length));
        for (int i = 0; i < elements.length; i++) {
            must(x.set(s, i, elements[i]));
        }
    }

    /** Shelf s holds a text's letters, as bytes. */
    static void text(AdvertCouncil x, int s, String letters) {
        must(x.row(s, 0, letters.length()));
        for (int i = 0; i < letters.length(); i++) {
            must(x.set(s, i, letters.charAt(i)));
        }
    }

    static int phrase(AdvertCouncil x, int kind, int subject, int number, int from, long... words) {
        row(x, 7, 2, words);
        return x.phrase(7, kind, subject * 1000 + number, from);
    }

    static int advert(AdvertCouncil x, int firm, int medium, long... words) {
        row(x, 7, 2, words);
        return x.advert(firm, medium, 7);
    }

    static int print(AdvertCouncil x, int advert, int size, long... words) {
        row(x, 7, 2, words);
        return x.print(advert, 7, size);
    }

    static int proof(AdvertCouncil x, int firm, int subject, long... results) {
        row(x, 7, 2, results);
        return x.proof(firm, subject, 7);
    }

    static int rule(AdvertCouncil x, int from, String letters) {
        text(x, 7, letters);
        return x.rule(7, from);
    }

    static int judge(AdvertCouncil x, int advert, long... places) {
        row(x, 7, 2, places);
        return x.judge(advert, 7);
    }

    /** Days on by more than one call may tell. */
    static void daysOn(AdvertCouncil x, int n) {
        for (int left = n; left > 0; left -= 1000) {
            if (x.days(Math.min(left, 1000)) < 0) {
                throw new IllegalStateException("days were refused in a test's preparation");
            }
        }
    }

    private static void must(int answer) {
        if (answer != 1) {
            throw new IllegalStateException("a row was refused in a test's preparation: " + answer);
        }
    }
}
