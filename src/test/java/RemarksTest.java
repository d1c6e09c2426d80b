/** Promises 19 to 25: REMARKS, how they FOLLOW by KINDS, are LOST and COME BACK. */
public final class RemarksTest {
    private static final Checks due = new Checks("RemarksTest");
    private static final int GONE = -1000 - 10 + 3;

    public static void main(String[] args) {
        made();
        trees();
        settled();
        followRemarkAndPoint();
        followBlockAndWall();
        followLoose();
        followCaretAndTail();
        putRefusals();
        comesBack();
        context();
        margins();
        scoreRefusals();
        leastNeeds();
        fittings();
        due.end();
    }

    private static void made() {
        LineRemarks x = new LineRemarks();
        Checks.revise(x, "a/b/c", -1);
        Checks.revise(x, "", 0);
        due.due("remark", x.remark(6, 9, 0, 1, 2, -1), 0);
        int[] of = {6, 9, 0, 1, 2, -1, 0, 0, 0, 1};
        for (int what = 0; what < of.length; what++) {
            due.due("remarkOf(0, " + what + ")", x.remarkOf(0, what), of[what]);
        }
        due.due("no kind", x.remark(7, 10, 0, 2, 1, -1), -1);
        due.due("no kind", x.remark(-1, 0, 0, 0, 0, -1), -1);
        due.due("no revision", x.remark(0, 10, 2, 2, 1, -1), -1);
        due.due("no revision", x.remark(0, 0, -1, 0, 0, -1), -1);
        due.due("answers no remark", x.remark(0, 0, 0, 0, 0, 1), -1);
        due.due("answers -2", x.remark(0, 0, 0, 0, 0, -2), -1);
        due.due("p below", x.remark(0, 10, 0, -1, 0, -1), -5);
        due.due("q beyond", x.remark(0, 0, 0, 0, 3, -1), -5);
        due.due("p beyond", x.remark(0, 0, 0, 3, 3, -1), -5);
        due.due("q ahead of p", x.remark(1, 0, 0, 2, 1, -1), -5);
        due.due("no lines", x.remark(0, 0, 1, 0, 0, -1), -5);
        due.due("a", x.remark(0, 10, 0, 0, 0, -1), -6);
        due.due("a", x.remark(0, -1, 0, 0, 0, -1), -6);
        for (int m = 1; m < 16; m++) {
            due.due("remark", x.remark(0, 0, 0, 0, 0, m - 1), m);
        }
        due.due("a ahead of room", x.remark(0, 10, 0, 0, 0, -1), -6);
        due.due("room", x.remark(0, 0, 0, 0, 0, -1), -7);
        due.due("remarks", x.status(1), 16);
        due.due("of no remark", x.remarkOf(16, 0), -5);
        due.due("of no remark", x.remarkOf(-1, 0), -5);
        due.due("another what", x.remarkOf(0, 10), -5);
        due.due("another what", x.remarkOf(0, -1), -5);
        due.due("depth", x.remarkOf(15, 7), 15);
        due.due("thread", x.remarkOf(0, 8), 15);
        int[] counts = {6, 0, 0, 0, 9, 3, 1};
        for (int k = 0; k < counts.length; k++) {
            due.due("counted " + k, x.status(11 + k), counts[k]);
        }
    }

    private static void trees() {
        LineRemarks x = new LineRemarks();
        Checks.revise(x, "a/b/c", -1);
        int[] answers = {-1, 0, 0, 1, -1, 3, 4};
        int[] depths = {0, 1, 1, 2, 0, 3, 1};
        int[] threads = {4, 2, 0, 1, 1, 0, 0};
        for (int m = 0; m < answers.length; m++) {
            x.remark(0, 0, 0, 0, 0, answers[m]);
        }
        for (int m = 0; m < answers.length; m++) {
            due.due("answers", x.remarkOf(m, 5), answers[m]);
            due.due("depth", x.remarkOf(m, 7), depths[m]);
            due.due("thread", x.remarkOf(m, 8), threads[m]);
        }
        due.due("open roots", x.status(3), 2);
        for (int m : new int[] {0, 1, 2, 3, 4}) {
            x.settle(m, true);
        }
        due.due("open by 5", x.remarkOf(0, 9), 1);
        due.due("open by 5", x.remarkOf(1, 9), 1);
        due.due("not open", x.remarkOf(2, 9), 0);
        due.due("open by 5", x.remarkOf(3, 9), 1);
        x.settle(5, true);
        due.due("not open", x.remarkOf(0, 9), 0);
        due.due("not open", x.remarkOf(3, 9), 0);
        due.due("open by 6", x.remarkOf(4, 9), 1);
        due.due("open roots", x.status(3), 1);
    }

    private static void settled() {
        LineRemarks x = new LineRemarks();
        Checks.revise(x, "a/b/c", -1);
        x.remark(0, 0, 0, 0, 0, -1);
        x.remark(0, 0, 0, 0, 0, -1);
        due.due("wasn't", x.settle(1, true), 0);
        due.due("was", x.settle(1, true), 1);
        due.due("is", x.remarkOf(1, 6), 1);
        due.due("isn't", x.remarkOf(0, 6), 0);
        due.due("settled", x.status(2), 1);
        due.due("was", x.settle(1, false), 1);
        due.due("wasn't", x.settle(1, false), 0);
        due.due("isn't", x.remarkOf(1, 6), 0);
        due.due("none", x.settle(2, true), -1);
        due.due("none", x.settle(-1, true), -1);
        due.due("counted", x.status(11), 2);
    }

    private static void followRemarkAndPoint() {
        LineRemarks x = new LineRemarks();
        x.rule(1, 99);
        Checks.revise(x, "a/b/c/d/e/f", -1);
        // b is gone, n is new inside, a and f stay.
        Checks.revise(x, "a/n/c/n/d/f", 0);
        x.remark(0, 0, 0, 1, 4, -1);
        x.remark(0, 0, 0, 1, 1, -1);
        x.remark(1, 0, 0, 2, 4, -1);
        x.remark(1, 0, 0, 1, 4, -1);
        due.due("made", Checks.put(x, 0, 0), 1040);
        due.due("least to greatest", Checks.put(x, 0, 1), 2041);
        due.due("none has a place", Checks.put(x, 1, 1), GONE);
        due.due("point made", Checks.put(x, 2, 0), 2040);
        due.due("point", Checks.put(x, 2, 1), 2021);
        due.due("point lost", Checks.put(x, 3, 1), GONE);
        // A moved LINE stretches the SPAN.
        x.rule(0, 1);
        Checks.revise(x, "c/d/e/f/a/b", 0);
        x.remark(0, 0, 0, 1, 2, -1);
        due.due("from c to b", Checks.put(x, 4, 2), 51);
    }

    private static void followBlockAndWall() {
        LineRemarks x = new LineRemarks();
        x.rule(1, 99);
        Checks.revise(x, "a/b/c/d/e/f", -1);
        Checks.revise(x, "a/n/b/c/d/n/n/e/f", 0);
        Checks.revise(x, "a/c/d/e/f", 0);
        x.remark(2, 9, 0, 1, 3, -1);
        x.remark(2, 9, 0, 3, 4, -1);
        x.remark(5, 2, 0, 3, 4, -1);
        x.remark(5, 1, 0, 3, 4, -1);
        x.remark(5, 9, 0, 1, 3, -1);
        x.remark(5, 0, 0, 1, 3, -1);
        x.remark(5, 3, 0, 3, 5, -1);
        due.due("block as long", Checks.put(x, 0, 1), 2041);
        due.due("block longer", Checks.put(x, 1, 1), GONE);
        due.due("wall longer by 2", Checks.put(x, 2, 1), 4071);
        due.due("wall longer by more than 1", Checks.put(x, 3, 1), GONE);
        due.due("wall as long", Checks.put(x, 5, 1), 2041);
        due.due("wall longer", Checks.put(x, 6, 1), 4081);
        due.due("block without a line", Checks.put(x, 0, 2), GONE);
        due.due("wall without a line", Checks.put(x, 4, 2), GONE);
        due.due("block", Checks.put(x, 1, 2), 2031);
    }

    private static void followLoose() {
        LineRemarks x = new LineRemarks();
        x.rule(1, 99);
        Checks.revise(x, "a/b/c/d/e", -1);
        Checks.revise(x, "a/n/n/c/d/n", 0);
        x.remark(4, 6, 0, 0, 4, -1);
        x.remark(4, 7, 0, 0, 4, -1);
        x.remark(4, 0, 0, 1, 1, -1);
        x.remark(4, 5, 0, 1, 2, -1);
        x.remark(4, 9, 0, 2, 3, -1);
        due.due("3 of 5 are 6 tenths", Checks.put(x, 0, 1), 41);
        due.due("3 of 5 aren't 7 tenths", Checks.put(x, 1, 1), GONE);
        due.due("none has a place", Checks.put(x, 2, 1), GONE);
        due.due("half", Checks.put(x, 3, 1), 3031);
        due.due("all", Checks.put(x, 4, 1), 3041);
    }

    private static void followCaretAndTail() {
        LineRemarks x = new LineRemarks();
        x.rule(1, 99);
        Checks.revise(x, "a/b/c/d/e", -1);
        Checks.revise(x, "n/n/b/e", 0);
        x.remark(3, 0, 0, 3, 4, -1);
        x.remark(3, 0, 0, 0, 4, -1);
        x.remark(3, 0, 0, 4, 4, -1);
        x.remark(6, 0, 0, 3, 3, -1);
        x.remark(6, 0, 0, 0, 3, -1);
        x.remark(6, 0, 0, 4, 4, -1);
        due.due("caret made", Checks.put(x, 0, 0), 3040);
        due.due("caret by b", Checks.put(x, 0, 1), 2021);
        due.due("caret has none ahead", Checks.put(x, 1, 1), GONE);
        due.due("caret as a point", Checks.put(x, 2, 1), 3031);
        due.due("tail made", Checks.put(x, 3, 0), 3030);
        due.due("tail", Checks.put(x, 3, 1), 2031);
        due.due("tail lost", Checks.put(x, 4, 1), GONE);
        due.due("tail at the end", Checks.put(x, 5, 1), 3031);
        Checks.revise(x, "b/k/l/m", 1);
        due.due("tail again", Checks.put(x, 3, 2), 31);
    }

    private static void putRefusals() {
        LineRemarks x = new LineRemarks();
        Checks.revise(x, "a/b", -1);
        Checks.revise(x, "a/b", 0);
        Checks.revise(x, "a/b", 0);
        x.remark(0, 0, 1, 0, 0, -1);
        due.due("no remark", x.put(1, 0, 9), -11);
        due.due("no remark", x.put(-1, 0, 0), -11);
        due.due("no revision", x.put(0, 3, 0), -11);
        due.due("no revision", x.put(0, -1, 0), -11);
        due.due("another what", x.put(0, 0, 3), -15);
        due.due("another what", x.put(0, 0, -1), -15);
        due.due("ahead", x.put(0, 0, 2), -16);
        due.due("beside", x.put(0, 2, 2), -16);
        due.due("counted -1", x.status(11), 4);
        due.due("counted -5", x.status(15), 2);
        due.due("counted -6", x.status(16), 2);
    }

    private static void comesBack() {
        LineRemarks x = new LineRemarks();
        Checks.revise(x, "p/q/r/s", -1);
        Checks.revise(x, "k/l", 0);
        Checks.revise(x, "m", 1);
        Checks.revise(x, "a/p/q/r/b", 2);
        Checks.revise(x, "a/c/p/q/r/b", 3);
        x.remark(0, 0, 0, 1, 2, -1);
        due.due("lost", Checks.put(x, 0, 1), GONE);
        due.due("lost, no place", Checks.put(x, 0, 2), GONE);
        due.due("comes back", Checks.put(x, 0, 3), 2032);
        due.due("follows again", Checks.put(x, 0, 4), 3041);
        due.due("p, q, r", x.score(0, 3, 2), 8);
        x.rule(1, 8);
        due.due("need is met", Checks.put(x, 0, 3), 2032);
        x.rule(1, 9);
        due.due("need isn't met", Checks.put(x, 0, 3), GONE);
        due.due("nor on the next", Checks.put(x, 0, 4), GONE);
        // It may come back on the REVISION on which it is lost.
        Checks.revise(x, "p/q/r/s/t/u", -1);
        Checks.revise(x, "q/r/t/u/p/q/s", 5);
        x.rule(1, 4);
        x.rule(0, 9);
        x.remark(2, 0, 5, 0, 1, -1);
        due.due("back at once", Checks.put(x, 1, 6), 4052);
    }

    private static void context() {
        LineRemarks x = new LineRemarks();
        Checks.revise(x, "a/b/c", -1);
        Checks.revise(x, "x/b/y", 0);
        Checks.revise(x, "n", 1);
        Checks.revise(x, "a/b/c/x/b/y", 2);
        Checks.revise(x, "x/b", 3);
        x.remark(0, 0, 0, 1, 1, -1);
        due.due("follows", Checks.put(x, 0, 1), 1011);
        due.due("lost", Checks.put(x, 0, 2), GONE);
        // The latest on which it wasn't LOST is REVISION 1, not the one on which it is made.
        due.due("by the latest context", Checks.put(x, 0, 3), 4042);
        due.due("score there", x.score(0, 3, 4), 7);
        due.due("score elsewhere", x.score(0, 3, 1), 3);
        due.due("it follows on 4", Checks.put(x, 0, 4), 1011);
        due.due("x ahead, none behind in place of y", x.score(0, 4, 1), 5);
        due.due("none ahead in place of x, b in place of y", x.score(0, 4, 0), 0);
        // Nothing ahead and nothing behind are alike to that.
        x.remark(0, 0, 0, 0, 2, -1);
        Checks.revise(x, "q", 0);
        Checks.revise(x, "a/b/c", 5);
        due.due("the whole text", x.score(1, 6, 0), 13);
        due.due("comes back", Checks.put(x, 1, 6), 22);
        Checks.revise(x, "a/b/c/d", 5);
        due.due("a line behind", x.score(1, 7, 0), 11);
        due.due("one further", x.score(1, 7, 1), 2);
    }

    private static void margins() {
        LineRemarks x = new LineRemarks();
        Checks.revise(x, "p/q/r", -1);
        Checks.revise(x, "n", 0);
        Checks.revise(x, "p/q/r/p/q/r", 1);
        Checks.revise(x, "p/q/r/p/q/s", 1);
        x.remark(0, 0, 0, 1, 1, -1);
        due.due("two alike", Checks.put(x, 0, 2), GONE);
        due.due("7 and 5", Checks.put(x, 0, 3), 1012);
        x.rule(2, 2);
        due.due("7 and 5, margin 2", Checks.put(x, 0, 3), 1012);
        x.rule(2, 3);
        due.due("7 and 5, margin 3", Checks.put(x, 0, 3), GONE);
        x.rule(2, 0);
        due.due("two alike, margin 0: the first", Checks.put(x, 0, 2), 1012);
        x.rule(2, 20);
        Checks.revise(x, "q", 1);
        x.rule(1, 3);
        due.due("no other place", Checks.put(x, 0, 4), 2);
        x.rule(1, 0);
        x.rule(2, 0);
        due.due("need 0: anywhere", Checks.put(x, 0, 1), 2);
    }

    private static void scoreRefusals() {
        LineRemarks x = new LineRemarks();
        Checks.revise(x, "a/b", -1);
        Checks.revise(x, "n", 0);
        Checks.revise(x, "a/b/c/a", 1);
        x.remark(0, 0, 0, 0, 1, -1);
        due.due("no remark", x.score(1, 2, 0), -1);
        due.due("no revision", x.score(0, 3, 0), -1);
        due.due("no revision", x.score(0, -1, 0), -1);
        due.due("the one on which it is made", x.score(0, 0, 9), -6);
        x.remark(0, 0, 1, 0, 0, -1);
        due.due("ahead", x.score(1, 0, -1), -6);
        due.due("no place", x.score(0, 1, 0), -5);
        due.due("no place", x.score(0, 2, 3), -5);
        due.due("no place", x.score(0, 2, -1), -5);
        due.due("the last: none behind either", x.score(0, 2, 2), 2);
        due.due("in between", x.score(0, 2, 1), 0);
        due.due("the first", x.score(0, 2, 0), 8);
        due.due("counted -1", x.status(11), 3);
        due.due("counted -5", x.status(15), 3);
        due.due("counted -6", x.status(16), 2);
    }

    private static void leastNeeds() {
        LineRemarks x = new LineRemarks();
        Checks.revise(x, "p/q/r", -1);
        Checks.revise(x, "n", 0);
        Checks.revise(x, "p/q/r/p/q/r", 1);
        Checks.revise(x, "p/q/r/p/q/s", 1);
        Checks.revise(x, "", 1);
        x.remark(0, 0, 0, 1, 1, -1);
        x.rule(1, 99);
        due.due("one place", x.leastNeed(0, 1), 0);
        due.due("two alike", x.leastNeed(0, 2), -1);
        due.due("7 and 5", x.leastNeed(0, 3), 7);
        due.due("no place", x.leastNeed(0, 4), -1);
        x.rule(2, 3);
        due.due("margin 3", x.leastNeed(0, 3), -1);
        x.rule(2, 0);
        due.due("margin 0", x.leastNeed(0, 2), 7);
        due.due("no remark", x.leastNeed(1, 0), -11);
        due.due("no revision", x.leastNeed(0, 5), -11);
        due.due("the one on which it is made", x.leastNeed(0, 0), -16);
        x.remark(0, 0, 1, 0, 0, -1);
        due.due("ahead", x.leastNeed(1, 0), -16);
        due.due("counted -1", x.status(11), 2);
        due.due("counted -6", x.status(16), 2);
    }

    private static void fittings() {
        LineRemarks x = new LineRemarks();
        x.rule(1, 99);
        Checks.revise(x, "a/b/c/d/e", -1);
        Checks.revise(x, "a/n/n/c/d/n", 0);
        Checks.revise(x, "a/b/n/c/d/e", 0);
        Checks.revise(x, "k/k", 2);
        x.remark(0, 5, 0, 1, 2, -1);
        x.remark(4, 6, 0, 1, 2, -1);
        x.remark(2, 0, 0, 1, 2, -1);
        due.due("made", x.fitting(0, 0), 127);
        due.due("remark, caret, loose, tail", x.fitting(0, 1), 1 + 8 + 16 + 64);
        due.due("loose of 6 tenths", x.fitting(1, 1), 1 + 8 + 64);
        due.due("longer by one, wall of 5", x.fitting(0, 2), 127 - 4);
        due.due("longer by one, wall of 0", x.fitting(2, 2), 127 - 4 - 32);
        due.due("none", x.fitting(0, 3), 0);
        due.due("no remark", x.fitting(3, 0), -1);
        due.due("no revision", x.fitting(0, 4), -1);
        x.remark(0, 0, 1, 0, 0, -1);
        due.due("ahead", x.fitting(3, 0), -6);
        due.due("beside", x.fitting(3, 2), -6);
        due.due("counted -1", x.status(11), 2);
        due.due("counted -6", x.status(16), 2);
    }
}
