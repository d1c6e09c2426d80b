/** Promises 31 to 37: drift, seed, MOVES and THE TRACE, THE IMAGE, status. */
public final class WholeTest {
    private static final Checks due = new Checks("WholeTest");

    public static void main(String[] args) {
        drifts();
        driftOfMany();
        driftRefusals();
        acts();
        traces();
        noActs();
        images();
        imageOfRules();
        shelvesRestored();
        due.end();
    }

    /** What a REVISION of a text becomes by one DRIFT from a SEED. */
    private static String drifted(String text, int seed) {
        LineRemarks x = new LineRemarks();
        Checks.revise(x, text, -1);
        x.seed(seed);
        x.drift(1);
        return Checks.text(x, 1);
    }

    /** The SEED after n DRAWS. */
    private static int after(int seed, int n) {
        int s = seed;
        for (int k = 0; k < n; k++) {
            s = Scenes.next(s);
        }
        return s;
    }

    private static int drawn(int seed, int n) {
        return (after(seed, 1) >>> 16) % n;
    }

    private static void drifts() {
        boolean[] seen = new boolean[16];
        for (int seed = -40; seed < 40; seed++) {
            int move = drawn(seed, 4);
            int at = drawn(after(seed, 1), 3);
            String letter = "" + (char) ('a' + drawn(after(seed, 2), 26));
            java.util.ArrayList<String> lines = new java.util.ArrayList<>(java.util.List.of("aa", "bb", "cc"));
            String line = lines.get(at);
            if (move == 0) {
                lines.add(at, letter);
            } else if (move == 3) {
                lines.set(at, "z");
            } else {
                lines.remove(at);
                if (move == 2) {
                    lines.add(0, line);
                }
            }
            seen[move * 4 + at] = true;
            due.same("drift by " + seed, drifted("aa/bb/cc", seed), String.join("/", lines));
            boolean in = move == 0;
            due.same("drift of none by " + seed, drifted("", seed),
                in ? "" + (char) ('a' + drawn(after(seed, 1), 26)) : "");
        }
        for (int move = 0; move < 4; move++) {
            for (int at = 0; at < 3; at++) {
                due.that("move " + move + " at " + at + " was seen", seen[move * 4 + at]);
            }
        }
    }

    private static void driftOfMany() {
        String most = "k" + "/l".repeat(23);
        int put = 0;
        for (int seed = 0; seed < 20; seed++) {
            LineRemarks x = new LineRemarks();
            Checks.revise(x, most, -1);
            due.due("seed was", x.seed(seed), 1);
            x.drift(1);
            if (drawn(seed, 4) == 0) {
                put++;
                due.same("24 stay", Checks.text(x, 1), most);
            }
            due.due("two draws", x.seed(0), after(seed, 2));
        }
        due.that("put was seen", put > 0);
        LineRemarks x = new LineRemarks();
        Checks.revise(x, "", -1);
        x.drift(1);
        due.due("one draw, or two", x.status(7), after(1, drawn(1, 4) == 0 ? 2 : 1));
        LineRemarks y = new LineRemarks();
        Checks.revise(y, "a/b/c/d", -1);
        Checks.revise(y, "e/f/g/h", -1);
        due.due("the latest's number", y.drift(3), 4);
        for (int r = 2; r < 5; r++) {
            due.due("former", y.former(r), r - 1);
        }
        due.due("15 and 1", new LineRemarks().drift(15), -5);
    }

    private static void driftRefusals() {
        LineRemarks x = new LineRemarks();
        due.due("no revision", x.drift(0), -5);
        due.due("no revision", x.drift(99), -5);
        Checks.revise(x, "a", -1);
        due.due("n 0", x.drift(0), -6);
        due.due("n 16", x.drift(16), -6);
        due.due("n below", x.drift(-1), -6);
        due.due("15", x.drift(15), 15);
        due.due("room", x.drift(1), -7);
        due.due("n ahead of room", x.drift(0), -6);
        int[] counts = {0, 0, 0, 0, 2, 4, 1};
        for (int k = 0; k < counts.length; k++) {
            due.due("counted " + k, x.status(11 + k), counts[k]);
        }
        int seed = x.status(7);
        due.due("seed", x.seed(Integer.MIN_VALUE), seed);
        due.due("seed", x.seed(7), Integer.MIN_VALUE);
        due.due("seed", x.status(7), 7);
    }

    /** A REMARK of each KIND, with the number of its KIND and a of 3. */
    private static LineRemarks kinds() {
        LineRemarks x = new LineRemarks();
        Checks.revise(x, "a", -1);
        for (int kind = 0; kind < 7; kind++) {
            x.remark(kind, 3, 0, 0, 0, -1);
        }
        return x;
    }

    private static void acts() {
        LineRemarks x = kinds();
        int v = 100;
        // points: x + m for REMARK, and so on, worked out by hand from the bodies.
        int[] points = {100, 104, 102, 107, 100, 105, 2 * (101 + 6 + 3)};
        int[] weighs = {200, 208, 612, 214, 200, 3 * 210, 2 * 2 * (98 + 6 + 3)};
        for (int m = 0; m < 7; m++) {
            due.due("points of " + m, x.act(m, 0, v), points[m]);
            due.due("weighs of " + m, x.act(m, 1, v), weighs[m]);
        }
        due.due("clings of 0", x.act(0, 2, v), 200 ^ 97);
        due.due("clings of 1", x.act(1, 2, v), 208 ^ 101);
        due.due("clings of 2", x.act(2, 2, v), 612 ^ 99);
        due.due("clings of 3", x.act(3, 2, v), 214 ^ 104);
        due.due("clings of 4", x.act(4, 2, v), -(200 ^ 97));
        due.due("clings of 5", x.act(5, 2, v), 630 ^ 102 ^ 5);
        due.due("clings of 6", x.act(6, 2, v), 428 ^ 2 * (98 + 6 + 3));
        due.due("wraps", x.act(1, 0, Integer.MAX_VALUE), Integer.MAX_VALUE + 4);
        due.due("wraps", x.act(0, 2, Integer.MIN_VALUE), Integer.MAX_VALUE - 2);
    }

    private static void traced(LineRemarks x, int m, int move, int... bodies) {
        x.act(m, move, 5);
        due.due("ran of " + m + ", " + move, x.status(9), bodies.length);
        for (int i = 0; i < bodies.length; i++) {
            due.due("trace(" + i + ") of " + m + ", " + move, x.trace(i), bodies[i]);
        }
        due.due("trace behind", x.trace(bodies.length), -1);
        due.due("trace ahead", x.trace(-1), -1);
    }

    private static void traces() {
        LineRemarks x = kinds();
        traced(x, 0, 0, 10);
        traced(x, 0, 1, 11, 10);
        traced(x, 0, 2, 12, 11, 10, 10);
        traced(x, 1, 0, 20, 10);
        traced(x, 1, 2, 12, 11, 20, 10, 20, 10);
        traced(x, 2, 0, 10);
        traced(x, 2, 1, 30, 11, 10);
        traced(x, 3, 0, 40, 20, 10);
        traced(x, 4, 0, 51, 10);
        traced(x, 4, 2, 50, 12, 11, 51, 10, 51, 10);
        traced(x, 5, 1, 30, 11, 10);
        traced(x, 5, 2, 60, 12, 30, 11, 10, 10);
        traced(x, 6, 0, 70, 40, 20, 10);
        traced(x, 6, 1, 71, 11, 70, 40, 20, 10);
        traced(x, 6, 2, 12, 71, 11, 70, 40, 20, 10, 70, 40, 20, 10);
    }

    private static void noActs() {
        LineRemarks x = kinds();
        int[][] calls = {{7, 0}, {-1, 0}, {0, 3}, {0, -1}};
        for (int[] call : calls) {
            x.act(0, 0, 5);
            due.due("act", x.act(call[0], call[1], 5), 0);
            due.due("no trace", x.trace(0), -1);
            due.due("none ran", x.status(9), 0);
        }
        for (int what = 11; what < 18; what++) {
            due.due("nothing refused", x.status(what), 0);
        }
        due.due("another status", x.status(10), -1);
        due.due("another status", x.status(18), -1);
        due.due("another status", x.status(Integer.MIN_VALUE), -1);
    }

    private static void images() {
        LineRemarks x = new LineRemarks();
        due.due("there is none", x.restore(), -6);
        due.due("of nothing", x.image(), 0);
        Checks.revise(x, "a/b", -1);
        x.remark(0, 0, 0, 0, 0, -1);
        due.due("one", x.image(), 1);
        x.settle(0, true);
        Checks.revise(x, "c/d", 0);
        x.remark(1, 2, 1, 0, 1, 0);
        Checks.revise(x, "a//", 0);
        x.act(1, 0, 5);
        due.due("restored", x.restore(), 1);
        due.due("revisions", x.status(0), 1);
        due.due("remarks", x.status(1), 1);
        due.due("settled", x.status(2), 0);
        due.due("the fault stays", x.fault(), 2);
        due.due("the trace stays", x.trace(0), 20);
        due.due("what ran stays", x.status(9), 2);
        due.due("refusals stay", x.status(16), 2);
        due.due("made anew", Checks.revise(x, "b/a/k", 0), 1);
        due.same("text", Checks.text(x, 1), "b/a/k");
        due.due("place", x.through(0, 1, 1), 0);
        due.due("the same again", x.restore(), 1);
        due.due("revisions", x.status(0), 1);
        due.due("an image of that", x.image(), 1);
    }

    private static void imageOfRules() {
        LineRemarks x = new LineRemarks();
        Checks.revise(x, "a/b/p/q/r", -1);
        Checks.revise(x, "p/q/r/a/b", 0);
        x.remark(0, 0, 0, 0, 1, -1);
        x.rule(1, 99);
        x.rule(2, 7);
        x.seed(55);
        x.image();
        due.due("moved", Checks.put(x, 0, 1), 3041);
        x.rule(0, 3);
        x.rule(1, 0);
        x.rule(2, 0);
        x.seed(4);
        due.due("run 3", x.put(0, 1, 2), 2);
        x.restore();
        due.due("run", x.status(4), 2);
        due.due("need", x.status(5), 99);
        due.due("margin", x.status(6), 7);
        due.due("seed", x.status(7), 55);
        due.due("moved again", Checks.put(x, 0, 1), 3041);
    }

    private static void shelvesRestored() {
        LineRemarks x = new LineRemarks();
        Checks.revise(x, "a/b/c", -1);
        x.remark(0, 0, 0, 0, 0, -1);
        x.remark(0, 0, 0, 1, 1, -1);
        x.image();
        x.restore();
        x.remark(0, 0, 0, 2, 2, -1);
        x.show(0, 1);
        x.show(1, 2);
        Checks.tell(x, 2, 1, 44);
        x.restore();
        due.due("holds 1", x.holds(0), 1);
        due.due("holds nothing", x.holds(1), -1);
        due.due("a row stays", x.holds(2), 101);
        due.due("with its elements", x.element(2, 0), 44);
        due.due("says", x.says(0, 0), 1);
        due.due("says nothing", x.says(1, 0), -3);
        LineRemarks y = new LineRemarks();
        Checks.revise(y, "a/b/c", -1);
        y.image();
        y.remark(0, 0, 0, 2, 2, -1);
        y.show(0, 0);
        y.restore();
        y.remark(0, 0, 0, 1, 1, -1);
        due.due("still nothing", y.holds(0), -1);
    }
}
