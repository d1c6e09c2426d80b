/** Counts answers that are due, and helps to write texts into SHELVES. */
final class Checks {
    private final String name;
    private int passed;
    private int failed;

    Checks(String name) {
        this.name = name;
    }

    void due(String call, long got, long want) {
        if (got == want) {
            passed++;
            return;
        }
        failed++;
        System.out.println(name + ": " + call + " answered " + got + ", due is " + want);
    }

    void that(String what, boolean holds) {
        due(what, holds ? 1 : 0, 1);
    }

    /** Prints the counts; ends the program with 1 if an answer was wrong. */
    void end() {
        System.out.println(name + ": " + passed + " passed, " + failed + " failed");
        if (failed > 0) {
            System.exit(1);
        }
    }

    /** Puts a text into SHELF s, as a ROW of a SORT. */
    static void write(LineRemarks x, int s, int sort, String text) {
        x.row(s, sort, text.length());
        for (int i = 0; i < text.length(); i++) {
            x.set(s, i, text.charAt(i));
        }
    }

    /** A REVISION of a text, by SHELF 7. */
    static int revise(LineRemarks x, String text, int former) {
        write(x, 7, 0, text);
        return x.revise(7, former);
    }

    /** A told WALK in SHELF s. */
    static void tell(LineRemarks x, int s, int sort, int... places) {
        x.row(s, sort, places.length);
        for (int i = 0; i < places.length; i++) {
            x.set(s, i, places[i]);
        }
    }

    /** The text of a REVISION. */
    static String text(LineRemarks x, int r) {
        StringBuilder text = new StringBuilder();
        for (int i = 0; i < x.lines(r); i++) {
            if (i > 0) {
                text.append('/');
            }
            for (int k = 0; x.letter(r, i, k) > 0; k++) {
                text.append((char) x.letter(r, i, k));
            }
        }
        return text.toString();
    }

    /** p * 1000 + q * 10 + how of a REMARK on t. */
    static int put(LineRemarks x, int m, int t) {
        return x.put(m, t, 0) * 1000 + x.put(m, t, 1) * 10 + x.put(m, t, 2);
    }

    void same(String what, String got, String want) {
        if (!got.equals(want)) {
            System.out.println(name + ": " + what + " is \"" + got + "\", due is \"" + want + "\"");
        }
        that(what, got.equals(want));
    }
}
