/** Promises 26 to 30: ORDER, who, COVERED, judged WALKS, REVISIONS made again. */
public final class OutcomesTest {
    private static final Checks due = new Checks("OutcomesTest");

    public static void main(String[] args) {
        orders();
        whos();
        covers();
        judged();
        judgeRefusals();
        madeAgain();
        againRefusals();
        due.end();
    }

    /** REMARKS 0 to 5 on REVISIONS 0 to 2, where 2 is beside 1. */
    private static LineRemarks some() {
        LineRemarks x = new LineRemarks();
        x.rule(1, 99);
        Checks.revise(x, "a/b/c/d/e/f", -1);
        Checks.revise(x, "a/c/d/n/e/f", 0);
        Checks.revise(x, "f", 0);
        x.remark(0, 0, 0, 4, 5, -1);
        x.remark(0, 0, 0, 1, 1, -1);
        x.remark(0, 0, 0, 2, 4, -1);
        x.remark(1, 0, 0, 2, 4, -1);
        x.remark(0, 0, 1, 0, 1, -1);
        x.remark(0, 0, 2, 0, 0, -1);
        return x;
    }

    private static void orders() {
        LineRemarks x = some();
        int[] on0 = {1, 2, 3, 0, -1, -1};
        int[] on1 = {4, 2, 3, 0, -1, -1};
        int[] on2 = {0, 5, -1, -1, -1, -1};
        for (int k = 0; k < 6; k++) {
            due.due("on 0", x.inOrder(0, k), on0[k]);
            due.due("on 1", x.inOrder(1, k), on1[k]);
            due.due("on 2", x.inOrder(2, k), on2[k]);
        }
        due.due("k below", x.inOrder(0, -1), -1);
        due.due("k far below", x.inOrder(0, Integer.MIN_VALUE), -1);
        due.due("nothing refused", x.status(11), 0);
        due.due("no revision", x.inOrder(3, 0), -11);
        due.due("no revision", x.inOrder(-1, -1), -11);
        due.due("counted", x.status(11), 2);
    }

    private static void whos() {
        LineRemarks x = some();
        due.due("found on 0", x.who(0, 0), 1 + 2 + 4 + 8);
        due.due("lost on 0", x.who(0, 1), 0);
        due.due("found on 1", x.who(1, 0), 1 + 4 + 8 + 16);
        due.due("lost on 1", x.who(1, 1), 2);
        due.due("found on 2", x.who(2, 0), 1 + 32);
        due.due("lost on 2", x.who(2, 1), 2 + 4 + 8);
        due.due("heat on 0: 4 is in 0, 2, 3", x.who(0, 2), 4);
        due.due("heat on 1: 1 is in 2, 3, 4", x.who(1, 2), 1);
        due.due("heat on 2", x.who(2, 2), 0);
        Checks.revise(x, "k/l", 0);
        due.due("in none", x.who(3, 2), 99);
        due.due("nothing covered", x.covered(3), 0);
        x.remark(0, 0, 3, 1, 1, -1);
        due.due("one", x.who(3, 2), 1);
        due.due("no revision", x.who(4, 9), -1);
        due.due("another what", x.who(0, 3), -5);
        due.due("another what", x.who(0, -1), -5);
        due.due("counted -1", x.status(11), 1);
        due.due("counted -5", x.status(15), 2);
    }

    private static void covers() {
        LineRemarks x = some();
        due.due("on 0", x.covered(0), 2 + 4 + 8 + 16 + 32);
        due.due("on 1", x.covered(1), 1 + 2 + 4 + 8 + 16 + 32);
        due.due("on 2", x.covered(2), 1);
        due.due("no revision", x.covered(3), -1);
        due.due("no revision", x.covered(-1), -1);
        due.due("counted", x.status(11), 2);
        LineRemarks y = new LineRemarks();
        Checks.revise(y, "a" + "/b".repeat(23), -1);
        y.remark(0, 0, 0, 0, 23, -1);
        due.due("all 24", y.covered(0), (1 << 24) - 1);
        y.settle(0, true);
        due.due("settled or not", y.covered(0), (1 << 24) - 1);
    }

    private static void judged() {
        LineRemarks x = new LineRemarks();
        Checks.revise(x, "p/q/r/s", -1);
        Checks.revise(x, "k/l", 0);
        Checks.revise(x, "a/p/q/r/b", 1);
        Checks.revise(x, "q/r/b", 2);
        x.remark(0, 0, 0, 1, 2, -1);
        for (int sort = 0; sort < 4; sort++) {
            Checks.tell(x, 0, sort, 1, -1, 2, 0);
            due.due("all so", x.judge(0, 0, 3), -1);
        }
        Checks.tell(x, 0, 2, 1, -1, 2, 0, 77);
        due.due("more than there are", x.judge(0, 0, 3), -1);
        due.due("to 2", x.judge(0, 0, 2), -1);
        Checks.tell(x, 0, 2, 0, 0, 0, 0);
        due.due("the first", x.judge(0, 0, 3), 0);
        Checks.tell(x, 0, 2, 1, -2, 2, 0);
        due.due("the second", x.judge(0, 0, 3), 1);
        Checks.tell(x, 0, 2, 1, -1, 2, 1);
        due.due("the last", x.judge(0, 0, 3), 3);
        due.due("not come to", x.judge(0, 0, 2), -1);
        Checks.tell(x, 0, 3, 1, -1, 2, 0);
        x.set(0, 2, (5L << 32) + 2);
        due.due("the lowest 32 bits", x.judge(0, 0, 3), -1);
        due.due("none refused", x.status(15), 0);
    }

    private static void judgeRefusals() {
        LineRemarks x = new LineRemarks();
        Checks.revise(x, "a", -1);
        Checks.revise(x, "a", 0);
        x.remark(0, 0, 0, 0, 0, -1);
        x.remark(0, 0, 1, 0, 0, -1);
        x.show(1, 0);
        Checks.tell(x, 0, 2, 0);
        due.due("no shelf", x.judge(8, 0, 0), -11);
        due.due("no remark", x.judge(1, 2, 0), -11);
        due.due("no revision", x.judge(1, 0, 2), -11);
        due.due("a remark", x.judge(1, 1, 0), -12);
        due.due("nothing", x.judge(2, 1, 0), -13);
        due.due("fewer", x.judge(0, 0, 1), -15);
        due.due("not behind", x.judge(0, 1, 0), -16);
        due.due("as many", x.judge(0, 0, 0), -1);
        int[] counts = {3, 1, 1, 0, 1, 1, 0};
        for (int k = 0; k < counts.length; k++) {
            due.due("counted " + k, x.status(11 + k), counts[k]);
        }
    }

    private static void madeAgain() {
        LineRemarks x = new LineRemarks();
        Checks.revise(x, "a/b", -1);
        Checks.revise(x, "a/b/c", 0);
        Checks.revise(x, "b/a", 0);
        x.remark(0, 1, 0, 0, 0, -1);
        x.remark(3, 2, 1, 1, 2, 0);
        x.remark(4, 3, 1, 0, 1, -1);
        x.remark(6, 4, 1, 2, 2, 1);
        x.settle(2, true);
        due.due("again", x.again(1, 2), 2);
        due.due("revisions", x.status(0), 4);
        due.same("text", Checks.text(x, 3), "a/b/c");
        due.due("former", x.former(3), 2);
        due.due("remarks", x.status(1), 6);
        int[][] of = {{3, 2, 3, 1, 2, 0, 0, 1, 0, 1}, {6, 4, 3, 2, 2, 1, 0, 2, 0, 1}};
        for (int m = 4; m < 6; m++) {
            for (int what = 0; what < 10; what++) {
                due.due("remarkOf(" + m + ", " + what + ")", x.remarkOf(m, what), of[m - 4][what]);
            }
        }
        due.due("made there", Checks.put(x, 5, 3), 2020);
        due.due("on its own former", x.again(1, 0), 2);
        due.due("former", x.former(4), 0);
        due.due("none to make", x.again(0, 2), -6);
        due.due("none to make", x.again(2, 1), 0);
        due.due("settled", x.status(2), 1);
    }

    private static void againRefusals() {
        LineRemarks x = new LineRemarks();
        Checks.revise(x, "a", -1);
        Checks.revise(x, "b", 0);
        Checks.revise(x, "c", 0);
        due.due("no such r", x.again(3, 0), -1);
        due.due("no such b", x.again(0, 3), -1);
        due.due("no former", x.again(0, -1), -1);
        due.due("itself", x.again(1, 1), -6);
        due.due("in the chain", x.again(0, 1), -6);
        for (int m = 0; m < 9; m++) {
            x.remark(0, 0, 1, 0, 0, -1);
        }
        due.due("no room for remarks", x.again(1, 2), -7);
        due.due("nothing is made", x.status(0) * 100 + x.status(1), 309);
        x.settle(0, true);
        x.settle(1, true);
        due.due("room for 7", x.again(1, 2), 7);
        due.due("all there can be", x.status(1), 16);
        for (int r = 4; r < 16; r++) {
            due.due("again", x.again(2, 1), 0);
        }
        due.due("no room for revisions", x.again(2, 1), -7);
        int[] counts = {3, 0, 0, 0, 0, 2, 2};
        for (int k = 0; k < counts.length; k++) {
            due.due("counted " + k, x.status(11 + k), counts[k]);
        }
    }
}
