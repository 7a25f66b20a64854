/** What the tests share: answers that are due, refusals, and texts put on the tape. */
final class Check {
    private final String test;
    private int asked;
    private int wrong;

    Check(String test) {
        this.test = test;
    }

    void due(String call, long got, long want) {
        asked++;
        if (got != want) {
            wrong++;
            System.out.println(test + ": " + call + " answered " + got + ", due is " + want);
        }
    }

    void due(String call, boolean got, boolean want) {
        due(call, got ? 1 : 0, want ? 1 : 0);
    }

    /** An answer with STATUS 0. */
    void given(LetMe x, String call, long got, long want) {
        due(call, got, want);
        due(call + " then status()", x.status(), 0);
    }

    void granted(LetMe x, String call, boolean got) {
        due(call, got, true);
        due(call + " then status()", x.status(), 0);
    }

    void refused(LetMe x, String call, long got, int status) {
        due(call, got, LetMe.NONE);
        due(call + " then status()", x.status(), status);
    }

    void denied(LetMe x, String call, boolean got, int status) {
        due(call, got, false);
        due(call + " then status()", x.status(), status);
    }

    void fraction(LetMe x, String call, boolean got, long top, long bottom) {
        granted(x, call, got);
        due(call + " then top()", x.top(), top);
        due(call + " then bottom()", x.bottom(), bottom);
    }

    void fault(LetMe x, String call, int got, int kind, int place) {
        refused(x, call, got, 9);
        due(call + " then fault(0)", x.fault(0), kind);
        due(call + " then fault(1)", x.fault(1), place);
    }

    void finish() {
        System.out.println(test + ": " + asked + " answers, " + wrong + " not as due");
        if (wrong != 0 || asked == 0) {
            System.exit(1);
        }
    }

    /** Text on the tape, filled up by zeros to twenties. */
    static int feed(LetMe x, String text) {
        for (int i = 0; i < text.length(); i += 20) {
            x.feed(four(text, i), four(text, i + 4), four(text, i + 8), four(text, i + 12), four(text, i + 16));
        }
        return text.length();
    }

    static int table(LetMe x, String text) {
        return x.table(feed(x, text));
    }

    static int year(LetMe x, String text) {
        return x.year(feed(x, text));
    }

    static LetMe at(String table) {
        LetMe x = new LetMe();
        if (table(x, table) < 0) {
            throw new IllegalStateException("no table: " + table + " fault " + x.fault(0) + " at " + x.fault(1));
        }
        return x;
    }

    static LetMe at(String table, String year) {
        LetMe x = at(table);
        if (year(x, year) < 0) {
            throw new IllegalStateException("no year: " + year + " fault " + x.fault(0) + " at " + x.fault(1));
        }
        return x;
    }

    private static int four(String text, int from) {
        int four = 0;
        for (int i = from; i < from + 4; i++) {
            four = four << 8 | (i < text.length() ? text.charAt(i) & 255 : 0);
        }
        return four;
    }
}
