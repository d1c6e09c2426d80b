/** Objects brought to a state that is the same each time, and all of such a state told. */
final class Scenes {
    /** One call, or some, on an object. */
    interface Call {
        long on(LineRemarks x);
    }

    /** Makes an object of a state. */
    interface Scene {
        LineRemarks make();
    }

    /** 24 LINES, no two alike. */
    static final String ALL = "a/b/c/d/e/f/g/h/i/j/k/l/m/n/o/p/q/r/s/t/u/v/w/x";

    private Scenes() { }

    /** An object with a CHAIN of such REVISIONS, from 0 on, where nothing that is LOST may COME BACK. */
    static LineRemarks chain(String... texts) {
        LineRemarks x = new LineRemarks();
        x.rule(1, 99);
        for (int r = 0; r < texts.length; r++) {
            Checks.revise(x, texts[r], r - 1);
        }
        return x;
    }

    static LineRemarks anew() {
        return new LineRemarks();
    }

    /**
     * SHELVES: 0 bytes a/b, 1 shorts a/ (a FAULT), 2 ints 0, 3 longs 1 and -1, 4 REMARK 0, 5 REMARK 3,
     * 6 NOTHING, 7 bytes, but none. REVISIONS: 0, 1 behind it, 2 behind that; 3 beside these, and 4
     * behind 3, without LINES. REMARKS: 0 on 0; 1 on 1, SETTLED; 2 on 0; 3 on 3. THE IMAGE has
     * REVISIONS 0, 1 and REMARKS 0, 1 alone, and other rules. The FAULT is 2; THE TRACE has 3 bodies.
     */
    static LineRemarks some() {
        LineRemarks x = new LineRemarks();
        Checks.revise(x, "a/b/c", -1);
        Checks.revise(x, "b/c", 0);
        x.remark(0, 2, 0, 0, 1, -1);
        x.remark(3, 5, 1, 1, 1, 0);
        x.settle(1, true);
        x.rule(0, 9);
        x.rule(1, 99);
        x.rule(2, 20);
        x.seed(77);
        x.image();
        Checks.revise(x, "kk", 1);
        Checks.revise(x, "a/n", 0);
        Checks.revise(x, "", 3);
        x.remark(5, 9, 0, 1, 2, 1);
        x.remark(1, 0, 3, 0, 0, -1);
        x.settle(0, true);
        x.rule(0, 3);
        x.rule(1, 7);
        x.rule(2, 2);
        x.seed(-5);
        Checks.write(x, 0, 0, "a/b");
        Checks.write(x, 1, 1, "a/");
        Checks.tell(x, 2, 2, 0);
        Checks.tell(x, 3, 3, 1, -1);
        x.show(4, 0);
        x.show(5, 3);
        x.row(7, 0, 0);
        x.revise(1, -1);
        x.act(1, 0, 5);
        return x;
    }

    /** As many REVISIONS (each behind the one ahead) and REMARKS (each on the first) as there may be. */
    static LineRemarks full() {
        LineRemarks x = new LineRemarks();
        Checks.write(x, 0, 0, "a");
        Checks.write(x, 1, 0, "a/");
        x.show(2, -1);
        x.image();
        for (int r = 0; r < 16; r++) {
            x.revise(0, r - 1);
        }
        for (int m = 0; m < 16; m++) {
            x.remark(m % 7, m % 10, 0, 0, 0, m / 2 - 1);
        }
        x.show(3, 15);
        x.act(15, 2, 1);
        return x;
    }

    /** The SEED after one DRAW more. */
    static int next(int seed) {
        return seed * 1103515245 + 12345;
    }

    /** All that can be asked of an object but REFUSALS and the FAULT, by calls that refuse nothing. */
    static String told(LineRemarks x) {
        StringBuilder told = new StringBuilder();
        for (int s = 0; s < 8; s++) {
            told.append("\nshelf ").append(x.holds(s));
            for (int i = 0; i < 4 && x.holds(s) >= 100; i++) {
                told.append(' ').append(x.element(s, i));
            }
        }
        told.append("\ntrace");
        for (int i = 0; i < 12; i++) {
            told.append(' ').append(x.trace(i));
        }
        told.append("\nstatus");
        for (int what = 0; what < 10; what++) {
            told.append(' ').append(x.status(what));
        }
        for (int r = 0; r < x.status(0); r++) {
            tellRevision(x, r, told);
        }
        for (int m = 0; m < x.status(1); m++) {
            told.append("\nremark");
            for (int what = 0; what < 10; what++) {
                told.append(' ').append(x.remarkOf(m, what));
            }
        }
        return told.toString();
    }

    private static void tellRevision(LineRemarks x, int r, StringBuilder told) {
        told.append("\nrevision ").append(x.former(r)).append(':');
        int many = x.lines(r);
        for (int i = 0; i < many; i++) {
            told.append(' ').append(x.letter(r, i, 0)).append(' ').append(x.letter(r, i, 1));
        }
        told.append(" who ").append(x.who(r, 0)).append(' ').append(x.who(r, 1)).append(' ').append(x.covered(r));
    }

    /** How many REFUSALS -1 to -7. */
    static int[] refusals(LineRemarks x) {
        int[] many = new int[8];
        for (int k = 1; k < 8; k++) {
            many[k] = x.status(10 + k);
        }
        return many;
    }
}
