/** Promises 1 and 9 to 18: REVISIONS, their FAULTS, PLACES, rules. */
public final class RevisionsTest {
    private static final Checks due = new Checks("RevisionsTest");

    public static void main(String[] args) {
        anew();
        texts();
        faults();
        reviseRefusals();
        letters();
        rules();
        pairs();
        moves();
        longestFirst();
        alikeLines();
        throughs();
        origins();
        due.end();
    }

    private static void anew() {
        LineRemarks x = new LineRemarks();
        due.due("NONE", LineRemarks.NONE, -1);
        int[] status = {0, 0, 0, 0, 2, 6, 1, 1, 0, 0, -1, 0, 0, 0, 0, 0, 0, 0, -1};
        for (int what = 0; what < status.length; what++) {
            due.due("status(" + what + ")", x.status(what), status[what]);
        }
        due.due("fault()", x.fault(), -1);
        due.due("trace(0)", x.trace(0), -1);
        for (int s = 0; s < 8; s++) {
            due.due("holds", x.holds(s), -1);
        }
    }

    private static void texts() {
        LineRemarks x = new LineRemarks();
        due.due("no lines", Checks.revise(x, "", -1), 0);
        due.due("lines", x.lines(0), 0);
        due.due("one", Checks.revise(x, "abcdefgh", 0), 1);
        due.due("lines", x.lines(1), 1);
        due.due("three", Checks.revise(x, "zz/a/mno", 0), 2);
        due.due("lines", x.lines(2), 3);
        due.same("text", Checks.text(x, 2), "zz/a/mno");
        String most = "a" + "/b".repeat(23);
        due.due("24 lines", Checks.revise(x, most, 2), 3);
        due.due("lines", x.lines(3), 24);
        due.due("former", x.former(0), -1);
        due.due("former", x.former(2), 0);
        due.due("former", x.former(3), 2);
        for (int sort = 0; sort < 4; sort++) {
            Checks.write(x, 0, sort, "ab/c");
            due.due("of each sort", x.revise(0, -1), 4 + sort);
            due.same("text", Checks.text(x, 4 + sort), "ab/c");
        }
        x.row(0, 3, 1);
        x.set(0, 0, (7L << 32) + 'q');
        due.due("longs by their lowest 32 bits", x.revise(0, -1), 8);
        due.same("text", Checks.text(x, 8), "q");
        x.row(0, 1, 1);
        x.set(0, 0, 256 + 'q');
        due.due("shorts whole", x.revise(0, -1), -6);
        x.row(0, 0, 1);
        x.set(0, 0, 256 + 'q');
        due.due("bytes keep their lowest bits", x.revise(0, -1), 9);
    }

    private static void faults() {
        String most = "a" + "/b".repeat(23);
        String[] texts = {"/", "a/", "a//b", "abcdefghi", "abcdefgh/", "A", "a/b{", "`", "a/b/1",
            most + "/", most + "/c", most + "c/", "ab/cd/", "\0"};
        int[] faults = {0, 2, 2, 8, 9, 0, 3, 0, 4, 47, 47, 48, 6, 0};
        LineRemarks x = new LineRemarks();
        for (int k = 0; k < texts.length; k++) {
            due.due("revise " + texts[k], Checks.revise(x, texts[k], -1), -6);
            due.due("fault of " + texts[k], x.fault(), faults[k]);
        }
        due.due("none made", x.status(0), 0);
        due.due("counted", x.status(16), texts.length);
        x.revise(0, -1);
        due.due("the fault stays, if no row was come to", x.fault(), 0);
        Checks.write(x, 0, 0, "a/");
        x.revise(0, 0);
        due.due("nor with no such former", x.fault(), 0);
        x.revise(0, -1);
        due.due("until a row is", x.fault(), 2);
        Checks.revise(x, "a", -1);
        due.due("none", x.fault(), -1);
    }

    private static void reviseRefusals() {
        LineRemarks x = new LineRemarks();
        Checks.write(x, 0, 0, "a/");
        due.due("no shelf", x.revise(8, -1), -1);
        due.due("no former", x.revise(0, 0), -1);
        due.due("former -2", x.revise(0, -2), -1);
        due.due("nothing", x.revise(1, -1), -3);
        for (int r = 0; r < 16; r++) {
            Checks.write(x, 0, 0, "a");
            due.due("revise", x.revise(0, r - 1), r);
        }
        x.remark(0, 0, 0, 0, 0, -1);
        x.show(1, 0);
        due.due("a remark", x.revise(1, -1), -2);
        due.due("room", x.revise(0, -1), -7);
        Checks.write(x, 0, 0, "a/");
        due.due("a fault ahead of room", x.revise(0, -1), -6);
        due.due("fault", x.fault(), 2);
        Checks.write(x, 0, 0, "b");
        due.due("room", x.revise(0, -1), -7);
        due.due("no fault, no room", x.fault(), -1);
        int[] counts = {3, 1, 1, 0, 0, 1, 2};
        for (int k = 0; k < counts.length; k++) {
            due.due("counted " + k, x.status(11 + k), counts[k]);
        }
    }

    private static void letters() {
        LineRemarks x = new LineRemarks();
        Checks.revise(x, "abcdefgz/y", -1);
        due.due("first", x.letter(0, 0, 0), 97);
        due.due("last", x.letter(0, 0, 7), 122);
        due.due("behind eight", x.letter(0, 0, 8), 0);
        due.due("second line", x.letter(0, 1, 0), 121);
        due.due("behind one", x.letter(0, 1, 1), 0);
        due.due("behind one", x.letter(0, 1, 8), 0);
        due.due("no line", x.letter(0, 2, 0), -5);
        due.due("no line", x.letter(0, -1, 0), -5);
        due.due("k 9", x.letter(0, 0, 9), -5);
        due.due("k -1", x.letter(0, 0, -1), -5);
        due.due("no revision", x.letter(1, 0, 0), -1);
        due.due("no revision", x.letter(-1, 9, 9), -1);
        due.due("lines of none", x.lines(1), -1);
        due.due("lines of none", x.lines(-1), -1);
        due.due("former of none", x.former(1), -11);
        due.due("former of none", x.former(-1), -11);
        due.due("counted -1", x.status(11), 6);
        due.due("counted -5", x.status(15), 4);
    }

    private static void rules() {
        LineRemarks x = new LineRemarks();
        due.due("run", x.rule(0, 9), 2);
        due.due("run", x.rule(0, 1), 9);
        due.due("need", x.rule(1, 99), 6);
        due.due("need", x.rule(1, 0), 99);
        due.due("margin", x.rule(2, 20), 1);
        due.due("margin", x.rule(2, 0), 20);
        int[][] wrong = {{0, 0}, {0, 10}, {1, -1}, {1, 100}, {2, -1}, {2, 21}, {3, 1}, {-1, 1}};
        for (int[] pair : wrong) {
            due.due("rule(" + pair[0] + ", " + pair[1] + ")", x.rule(pair[0], pair[1]), -6);
        }
        due.due("counted", x.status(16), 8);
        due.due("status run", x.status(4), 1);
        due.due("status need", x.status(5), 0);
        due.due("status margin", x.status(6), 0);
    }

    private static void places(LineRemarks x, int a, int b, int... want) {
        for (int i = 0; i < want.length; i++) {
            due.due("place(" + a + ", " + b + ", " + i + ")", x.place(a, b, i), want[i]);
        }
    }

    private static void pairs() {
        LineRemarks x = new LineRemarks();
        Checks.revise(x, "a/bb/c/d/e", -1);
        Checks.revise(x, "a/c/d/bb/e/f", 0);
        places(x, 0, 1, 0, -1, 1, 2, 4);
        due.due("pairs", x.matched(0, 1, 0), 4);
        due.due("moved", x.matched(0, 1, 1), 0);
        places(x, 1, 0, 0, 2, 3, -1, 4, -1);
        places(x, 0, 0, 0, 1, 2, 3, 4);
        due.due("pairs of itself", x.matched(0, 0, 0), 5);
        // L(1, 0) is L(0, 1): the LINE of A is passed by, so b is the PAIR.
        Checks.revise(x, "a/b", -1);
        Checks.revise(x, "b/a", -1);
        places(x, 2, 3, -1, 0);
        places(x, 3, 2, -1, 0);
        due.due("run 1", x.rule(0, 1), 2);
        places(x, 2, 3, 1, 0);
        due.due("moved", x.matched(2, 3, 1), 1);
        Checks.revise(x, "", -1);
        due.due("pairs with none", x.matched(0, 4, 0), 0);
        places(x, 0, 4, -1, -1, -1, -1, -1);
        due.due("no line", x.place(4, 0, 0), -15);
        due.due("no line", x.place(0, 1, 5), -15);
        due.due("no line", x.place(0, 1, -1), -15);
        due.due("no revision", x.place(0, 5, 9), -11);
        due.due("no revision", x.place(-1, 0, 9), -11);
        due.due("matched", x.matched(0, 5, 9), -1);
        due.due("matched", x.matched(5, 0, 9), -1);
        due.due("matched", x.matched(0, 1, 2), -5);
        due.due("matched", x.matched(0, 1, -1), -5);
        due.due("counted -1", x.status(11), 4);
        due.due("counted -5", x.status(15), 5);
    }

    private static void moves() {
        LineRemarks x = new LineRemarks();
        Checks.revise(x, "a/b/p/q/r/s", -1);
        Checks.revise(x, "p/q/r/s/a/b", 0);
        places(x, 0, 1, 4, 5, 0, 1, 2, 3);
        due.due("pairs", x.matched(0, 1, 0), 4);
        due.due("moved", x.matched(0, 1, 1), 2);
        x.rule(0, 3);
        places(x, 0, 1, -1, -1, 0, 1, 2, 3);
        due.due("moved", x.matched(0, 1, 1), 0);
        due.due("through, by the rule of now", x.through(0, 1, 0), -1);
        x.rule(0, 2);
        due.due("through, by the rule of now", x.through(0, 1, 0), 4);
        // Two alike places for a run of two: the least j; then what is left is too short.
        Checks.revise(x, "a/b/p/q/r/s/t", -1);
        Checks.revise(x, "p/q/r/s/t/a/b/a/b", 2);
        places(x, 2, 3, 5, 6, 0, 1, 2, 3, 4);
        // Two alike runs in A: the least i has the only place.
        Checks.revise(x, "a/b/k/a/b/p/q/r/s/t", -1);
        Checks.revise(x, "p/q/r/s/t/a/b", 4);
        places(x, 4, 5, 5, 6, -1, -1, -1, 0, 1, 2, 3, 4);
    }

    private static void longestFirst() {
        LineRemarks x = new LineRemarks();
        // The run b/c of two comes ahead of the run c/d/e in A, but that is longer.
        Checks.revise(x, "b/c/d/e/p/q/r/s/t/u", -1);
        Checks.revise(x, "p/q/r/s/t/u/b/c/y/c/d/e", 0);
        places(x, 0, 1, -1, 9, 10, 11, 0, 1, 2, 3, 4, 5);
        x.rule(0, 1);
        places(x, 0, 1, 6, 9, 10, 11, 0, 1, 2, 3, 4, 5);
        due.due("moved", x.matched(0, 1, 1), 4);
    }

    private static void alikeLines() {
        LineRemarks x = new LineRemarks();
        Checks.revise(x, "a/a/a", -1);
        Checks.revise(x, "a/a", -1);
        places(x, 0, 1, 0, 1, -1);
        places(x, 1, 0, 0, 1);
        Checks.revise(x, "a/b/a", -1);
        // L(2, 1) is L(1, 2): the second a of A is passed by, the third is the PAIR.
        places(x, 0, 2, 0, -1, 2);
        // Alike by all their letters alone.
        Checks.revise(x, "ab/abcdefgh/ba", -1);
        Checks.revise(x, "abc/abcdefgz/a/b", -1);
        places(x, 3, 4, -1, -1, -1);
        // 24 LINES each, the first half behind the other: 12 PAIRS, 12 MOVED.
        String half = "a/b/c/d/e/f/g/h/i/j/k/l";
        String other = "m/n/o/p/q/r/s/t/u/v/w/x";
        Checks.revise(x, half + "/" + other, -1);
        Checks.revise(x, other + "/" + half, 5);
        for (int i = 0; i < 24; i++) {
            due.due("place(5, 6, " + i + ")", x.place(5, 6, i), (i + 12) % 24);
            due.due("through(5, 6, " + i + ")", x.through(5, 6, i), (i + 12) % 24);
            due.due("origin(6, " + i + ")", x.origin(6, i, 1), (i + 12) % 24);
        }
        due.due("pairs", x.matched(5, 6, 0), 12);
        due.due("moved", x.matched(5, 6, 1), 12);
    }

    private static void throughs() {
        LineRemarks x = new LineRemarks();
        Checks.revise(x, "a/b/c/d", -1);
        Checks.revise(x, "b/c/d/a", 0);
        Checks.revise(x, "z/b/d/a", 1);
        Checks.revise(x, "b/c", 0);
        due.due("through itself", x.through(0, 0, 2), 2);
        due.due("b", x.through(0, 2, 1), 1);
        due.due("c is gone", x.through(0, 2, 2), -1);
        due.due("d", x.through(0, 2, 3), 2);
        due.due("a has no place by step, though alike", x.through(0, 2, 0), -1);
        due.due("one step", x.through(1, 2, 3), 3);
        due.due("on a branch", x.through(0, 3, 2), 1);
        due.due("not behind", x.through(2, 3, 0), -16);
        due.due("ahead", x.through(1, 0, 0), -16);
        due.due("no line ahead of not behind", x.through(1, 0, 4), -15);
        due.due("no line", x.through(0, 1, -1), -15);
        due.due("no revision", x.through(0, 4, 9), -11);
        due.due("no revision", x.through(-1, 0, 9), -11);
        due.due("counted -1", x.status(11), 2);
        due.due("counted -5", x.status(15), 2);
        due.due("counted -6", x.status(16), 2);
    }

    private static void origins() {
        LineRemarks x = new LineRemarks();
        Checks.revise(x, "a/b/c/d", -1);
        Checks.revise(x, "b/c/d/a", 0);
        Checks.revise(x, "z/b/d/a", 1);
        due.due("own", x.origin(0, 3, 0), 0);
        due.due("own", x.origin(0, 3, 1), 3);
        due.due("new line", x.origin(2, 0, 0), 2);
        due.due("new line", x.origin(2, 0, 1), 0);
        due.due("b from the first", x.origin(2, 1, 0), 0);
        due.due("b from the first", x.origin(2, 1, 1), 1);
        due.due("a is new in 1", x.origin(2, 3, 0), 1);
        due.due("a is new in 1", x.origin(2, 3, 1), 3);
        x.rule(0, 1);
        due.due("a is moved", x.origin(2, 3, 0), 0);
        due.due("a is moved", x.origin(2, 3, 1), 0);
        due.due("no line", x.origin(2, 4, 0), -5);
        due.due("no line", x.origin(2, -1, 0), -5);
        due.due("another what", x.origin(2, 0, 2), -5);
        due.due("another what", x.origin(2, 0, -1), -5);
        due.due("no revision", x.origin(3, 0, 9), -1);
        due.due("no revision", x.origin(-1, 9, 0), -1);
        due.due("counted -1", x.status(11), 2);
        due.due("counted -5", x.status(15), 4);
    }
}
