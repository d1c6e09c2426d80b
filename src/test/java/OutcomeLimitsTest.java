import java.util.ArrayList;
import java.util.List;

/**
 * The least and the greatest of what comes of REMARKS: ORDER, HEAT, WALKS, MADE AGAIN, DRIFT, MOVES,
 * THE IMAGE, status.
 */
public final class OutcomeLimitsTest {
    private static final Checks due = new Checks("OutcomeLimitsTest");
    private static final int LEAST = Integer.MIN_VALUE;
    private static final int MOST = Integer.MAX_VALUE;

    public static void main(String[] args) {
        newObject();
        orderOfNone();
        orderOfSixteen();
        whoOfNone();
        whoOfSixteen();
        whoOfEachAnew();
        heatEnds();
        coveredEnds();
        walkOfOne();
        walkOfSixteen();
        walkWithLost();
        walkFromWhereItIsMade();
        walkThatComesBack();
        longWalk();
        againNone();
        againFills();
        againOverfills();
        againWithFormers();
        againOfAgain();
        driftCounts();
        driftOfLatest();
        driftOfItsLines();
        driftLines();
        driftPutsIn();
        drawsWrap();
        drawBounds();
        seedBounds();
        actsWrap();
        noSuchMove();
        longestTrace();
        traceOfLatest();
        imageOfNone();
        imageOfFull();
        imageOfLatest();
        restoreLeaves();
        restoreShelves();
        restoreGivesRoom();
        statusBounds();
        all512Calls();
        due.end();
    }

    /** "No REVISIONS, no REMARKS"; SHELVES hold NOTHING, RUN 2, NEED 6, MARGIN 1, SEED 1 at first. */
    private static void newObject() {
        LineRemarks x = new LineRemarks();
        due.due("REVISIONS", x.status(0), 0);
        due.due("REMARKS", x.status(1), 0);
        due.due("SETTLED", x.status(2), 0);
        due.due("OPEN", x.status(3), 0);
        due.due("RUN", x.rule(0, 2), 2);
        due.due("NEED", x.rule(1, 6), 6);
        due.due("MARGIN", x.rule(2, 1), 1);
        due.due("SEED", x.seed(1), 1);
        due.due("LINES of the latest", x.status(8), 0);
        due.due("bodies", x.status(9), 0);
        due.due("FAULT", x.fault(), -1);
        due.due("TRACE", x.trace(0), -1);
        for (int s = 0; s < 8; s++) {
            due.due("SHELF " + s, x.holds(s), -1);
        }
        for (int what = 11; what < 18; what++) {
            due.due("REFUSALS " + what, x.status(what), 0);
        }
        LineRemarks y = new LineRemarks();
        Checks.revise(y, "a", -1);
        due.due("objects stand by themselves", x.status(0) * 10 + y.status(0), 1);
    }

    private static void orderOfNone() {
        LineRemarks x = Scenes.chain("a", "b", "");
        for (int t = 0; t < 3; t++) {
            due.due("no REMARK on " + t, x.inOrder(t, 0), -1);
        }
        x.remark(0, 0, 1, 0, 0, -1);
        due.due("not behind", x.inOrder(0, 0), -1);
        due.due("MADE", x.inOrder(1, 0), 0);
        due.due("one", x.inOrder(1, 1), -1);
        due.due("LOST", x.inOrder(2, 0), -1);
    }

    /** "by p, the least first, of several by numbers": 16 of them. */
    private static void orderOfSixteen() {
        LineRemarks x = Scenes.chain(Scenes.ALL);
        LineRemarks y = Scenes.chain(Scenes.ALL);
        LineRemarks z = Scenes.chain(Scenes.ALL);
        for (int m = 0; m < 16; m++) {
            x.remark(0, 0, 0, 23 - m, 23, -1);
            y.remark(0, 0, 0, 23, 23, -1);
            z.remark(0, 0, 0, m % 2 == 0 ? 5 : 4, 5 + m, -1);
        }
        for (int k = 0; k < 16; k++) {
            due.due("the last has the least p", x.inOrder(0, k), 15 - k);
            due.due("all alike", y.inOrder(0, k), k);
            due.due("two p", z.inOrder(0, k), k < 8 ? 2 * k + 1 : 2 * (k - 8));
        }
        for (int k : new int[] {LEAST, -1, 16, 17, MOST}) {
            due.due("none " + k, x.inOrder(0, k), -1);
        }
        due.due("nothing refused", x.status(11) + x.status(15), 0);
    }

    private static void whoOfNone() {
        LineRemarks x = Scenes.chain("a/b", "k", "");
        for (int t = 0; t < 3; t++) {
            due.due("none there", x.who(t, 0) + x.who(t, 1), 0);
            due.due("HEAT", x.who(t, 2), 99);
            due.due("COVERED", x.covered(t), 0);
        }
        x.remark(0, 0, 0, 0, 1, -1);
        for (int t = 1; t < 3; t++) {
            due.due("not there", x.who(t, 0), 0);
            due.due("LOST", x.who(t, 1), 1);
            due.due("HEAT of LOST ones", x.who(t, 2), 99);
            due.due("COVERED by LOST ones", x.covered(t), 0);
        }
        LineRemarks y = Scenes.chain("a", "a");
        y.remark(0, 0, 1, 0, 0, -1);
        due.due("not PUT ahead of where it is made", y.who(0, 0) + y.who(0, 1), 0);
        due.due("HEAT", y.who(0, 2), 99);
        due.due("PUT", y.who(1, 0), 1);
    }

    private static void whoOfSixteen() {
        LineRemarks x = Scenes.chain("a/b", "b", "");
        for (int m = 0; m < 16; m++) {
            x.remark(0, 0, 0, m % 2, m % 2, -1);
        }
        due.due("all", x.who(0, 0), 0xFFFF);
        due.due("none LOST", x.who(0, 1), 0);
        due.due("half of them", x.who(1, 0), 0xAAAA);
        due.due("half LOST", x.who(1, 1), 0x5555);
        due.due("none", x.who(2, 0), 0);
        due.due("all LOST", x.who(2, 1), 0xFFFF);
        due.due("8 and 8: the first", x.who(0, 2), 0);
        due.due("8 on one LINE", x.who(1, 2), 0);
        for (int m = 0; m < 16; m++) {
            x.settle(m, true);
        }
        due.due("SETTLED or not", x.who(0, 0), 0xFFFF);
    }

    /** What was told of another t, or ahead of a change, isn't told again. */
    private static void whoOfEachAnew() {
        LineRemarks x = Scenes.chain("a/b", "b", "");
        x.remark(0, 0, 0, 0, 0, -1);
        x.remark(0, 0, 0, 1, 1, -1);
        int[] found = {3, 2, 0};
        int[] covered = {3, 1, 0};
        for (int t : new int[] {0, 2, 1, 2, 0, 1}) {
            due.due("found on " + t, x.who(t, 0), found[t]);
            due.due("LOST on " + t, x.who(t, 1), 3 - found[t]);
            due.due("COVERED on " + t, x.covered(t), covered[t]);
            due.due("HEAT on " + t, x.who(t, 2), t == 2 ? 99 : 0);
            due.due("the first of ORDER on " + t, x.inOrder(t, 0), t == 2 ? -1 : t);
        }
        Checks.revise(x, "a/b", 2);
        due.due("LOST", x.who(3, 1), 3);
        x.rule(1, 5);
        due.due("they COME BACK by another NEED", x.who(3, 0), 3);
        due.due("none LOST", x.who(3, 1), 0);
        x.rule(1, 6);
        due.due("one is LOST", x.who(3, 1), 2);
        due.due("one COMES BACK", x.who(3, 0), 1);
    }

    /** HEAT: "the LINE of t in most such SPANS, of several the first": LINE 0, LINE 23, between. */
    private static void heatEnds() {
        LineRemarks x = Scenes.chain(Scenes.ALL);
        x.remark(0, 0, 0, 23, 23, -1);
        due.due("the last LINE", x.who(0, 2), 23);
        x.remark(0, 0, 0, 10, 12, -1);
        due.due("of several the first", x.who(0, 2), 10);
        x.remark(0, 0, 0, 12, 23, -1);
        due.due("two on 12 and on 23: the first", x.who(0, 2), 12);
        x.remark(0, 0, 0, 22, 23, -1);
        due.due("three on 23", x.who(0, 2), 23);
        x.remark(0, 0, 0, 0, 23, -1);
        due.due("four on 23", x.who(0, 2), 23);
        for (int k = 0; k < 4; k++) {
            x.remark(0, 0, 0, 0, 0, -1);
        }
        due.due("five on 0", x.who(0, 2), 0);
    }

    private static void coveredEnds() {
        LineRemarks x = Scenes.chain(Scenes.ALL);
        x.remark(0, 0, 0, 0, 0, -1);
        due.due("LINE 0", x.covered(0), 1);
        x.remark(0, 0, 0, 23, 23, -1);
        due.due("and LINE 23", x.covered(0), 1 + (1 << 23));
        x.remark(0, 0, 0, 22, 23, -1);
        due.due("twice is once", x.covered(0), 1 + (3 << 22));
        x.remark(0, 0, 0, 1, 22, -1);
        due.due("all", x.covered(0), (1 << 24) - 1);
    }

    /** A WALK on the REVISION on which it is made alone. */
    private static void walkOfOne() {
        LineRemarks x = Scenes.chain(Scenes.ALL);
        x.remark(0, 0, 0, 23, 23, -1);
        for (int told : new int[] {LEAST, -1, 0, 22, 23, 24, MOST}) {
            Checks.tell(x, 0, 2, told);
            due.due("told " + told, x.judge(0, 0, 0), told == 23 ? -1 : 0);
        }
        x.row(0, 0, 0);
        due.due("none told", x.judge(0, 0, 0), -15);
    }

    /** A WALK of 16 REVISIONS: 15 elements are fewer, the 16th may be WRONG, a 17th isn't asked for. */
    private static void walkOfSixteen() {
        String[] texts = new String[16];
        int[] places = new int[16];
        for (int r = 0; r < 16; r++) {
            texts[r] = "k/".repeat(r) + "a";
            places[r] = r;
        }
        LineRemarks x = Scenes.chain(texts);
        x.remark(1, 0, 0, 0, 0, -1);
        Checks.tell(x, 0, 0, places);
        for (int t = 0; t < 16; t++) {
            due.due("all so to " + t, x.judge(0, 0, t), -1);
        }
        for (int wrong = 0; wrong < 16; wrong++) {
            x.set(0, wrong, 99);
            for (int t : new int[] {0, wrong - 1, wrong, 15}) {
                int to = Math.max(t, 0);
                due.due("WRONG at " + wrong + " to " + to, x.judge(0, 0, to), to < wrong ? -1 : wrong);
            }
            x.set(0, wrong, wrong);
        }
        x.row(1, 0, 15);
        x.copy(0, 1, 0, 0, 15);
        due.due("15 for 16", x.judge(1, 0, 15), -15);
        due.due("15 for 15", x.judge(1, 0, 14), -1);
        x.row(1, 0, 17);
        x.copy(0, 1, 0, 0, 16);
        x.set(1, 16, 5);
        due.due("17 for 16", x.judge(1, 0, 15), -1);
    }

    /** "(NONE: LOST)": -1 alone is so where it is LOST, and never where it isn't. */
    private static void walkWithLost() {
        LineRemarks x = Scenes.chain("a", "k", "");
        x.remark(0, 0, 0, 0, 0, -1);
        int[] told = {-1, -2, 0, 1, 255};
        for (int second : told) {
            Checks.tell(x, 0, 1, 0, second, -1);
            due.due("told " + second, x.judge(0, 0, 2), second == -1 ? -1 : 1);
        }
        Checks.tell(x, 0, 0, 0, 255, 255);
        due.due("255 as a byte is -1", x.judge(0, 0, 2), -1);
        Checks.tell(x, 0, 2, 0, -1, 0);
        due.due("the third", x.judge(0, 0, 2), 2);
        Checks.tell(x, 0, 2, -1, -1, -1);
        due.due("it isn't LOST where it is made", x.judge(0, 0, 2), 0);
        x.row(0, 3, 3);
        x.set(0, 1, (1L << 32) - 1);
        x.set(0, 2, -1);
        due.due("longs: the lowest 32 bits are -1", x.judge(0, 0, 2), -1);
    }

    /** "from the one on which it is made to t": the REVISIONS ahead of that aren't told. */
    private static void walkFromWhereItIsMade() {
        LineRemarks x = Scenes.chain("a", "k/a", "a", "k/k/a");
        x.remark(0, 0, 1, 1, 1, -1);
        x.remark(0, 0, 2, 0, 0, -1);
        Checks.tell(x, 0, 0, 1, 0, 2);
        due.due("three", x.judge(0, 0, 3), -1);
        due.due("those to 2", x.judge(0, 0, 2), -1);
        due.due("that on which it is made", x.judge(0, 0, 1), -1);
        due.due("ahead of that", x.judge(0, 0, 0), -16);
        due.due("of another the first is 0", x.judge(0, 1, 3), 0);
        Checks.tell(x, 0, 0, 0, 2);
        due.due("two are enough for two", x.judge(0, 1, 3), -1);
        due.due("and fewer than three", x.judge(0, 0, 3), -15);
        due.due("two for two, WRONG", x.judge(0, 0, 2), 0);
        Checks.tell(x, 0, 0, 1);
        due.due("one for one", x.judge(0, 0, 1), -1);
        due.due("one for two", x.judge(0, 0, 2), -15);
    }

    /** A WALK that FOLLOWS, is LOST and COMES BACK by the CONTEXT of its latest SPAN. */
    private static void walkThatComesBack() {
        LineRemarks x = Scenes.chain("x/a/y", "k/k/a/l", "", "x/a/y/k/a/l", "k/a/l");
        x.remark(0, 0, 0, 1, 1, -1);
        x.rule(1, 7);
        Checks.tell(x, 0, 0, 1, 2, -1, 4, 1);
        due.due("all so", x.judge(0, 0, 4), -1);
        for (int wrong = 0; wrong < 5; wrong++) {
            Checks.tell(x, 0, 0, 1, 2, -1, 4, 1);
            x.set(0, wrong, 9);
            due.due("WRONG at " + wrong, x.judge(0, 0, 4), wrong);
            due.due("not come to", x.judge(0, 0, Math.max(wrong - 1, 0)), wrong == 0 ? 0 : -1);
        }
        x.rule(1, 8);
        Checks.tell(x, 0, 0, 1, 2, -1, 4, 1);
        due.due("it is LOST by another NEED", x.judge(0, 0, 4), 3);
        Checks.tell(x, 0, 0, 1, 2, -1, -1, -1);
        due.due("it is told LOST", x.judge(0, 0, 4), -1);
    }

    /** A ROW of 160 told: what is behind the REVISIONS isn't looked at. */
    private static void longWalk() {
        LineRemarks x = Scenes.chain("a", "a");
        x.remark(0, 0, 0, 0, 0, -1);
        x.row(0, 2, 160);
        due.due("all 0", x.judge(0, 0, 1), -1);
        x.set(0, 2, 9);
        x.set(0, 159, 9);
        due.due("behind", x.judge(0, 0, 1), -1);
        x.set(0, 1, 9);
        due.due("the last of them", x.judge(0, 0, 1), 1);
        due.due("not come to", x.judge(0, 0, 0), -1);
    }

    /** MADE AGAIN with no REMARK on it, or with SETTLED ones alone: a REVISION, and 0. */
    private static void againNone() {
        LineRemarks x = Scenes.chain("a/b", "b", "");
        x.remark(0, 0, 0, 0, 0, -1);
        x.remark(0, 0, 1, 0, 0, -1);
        x.settle(1, true);
        due.due("none but a SETTLED one", x.again(1, 0), 0);
        due.due("REVISIONS", x.status(0), 4);
        due.due("REMARKS", x.status(1), 2);
        due.due("FORMER", x.former(3), 0);
        due.due("an empty one", x.again(2, 3), 0);
        due.due("its LINES", x.lines(4), 0);
        due.due("FORMER", x.former(4), 3);
        due.same("LINES", Checks.text(x, 3), "b");
        LineRemarks y = Scenes.chain(Scenes.ALL, "a");
        Checks.revise(y, Scenes.ALL, -1);
        due.due("24 LINES", y.again(2, 1), 0);
        due.same("LINES", Checks.text(y, 3), Scenes.ALL);
    }

    /** 8 REMARKS and 8 more are 16, the 16th REVISION is made. */
    private static void againFills() {
        LineRemarks x = Scenes.chain("a", "b");
        for (int r = 2; r < 15; r++) {
            Checks.revise(x, "c", 0);
        }
        for (int m = 0; m < 8; m++) {
            x.remark(m % 7, m, 1, 0, 0, m - 1);
        }
        due.due("8 more", x.again(1, 2), 8);
        due.due("REVISIONS", x.status(0), 16);
        due.due("REMARKS", x.status(1), 16);
        due.due("FORMER", x.former(15), 2);
        for (int m = 0; m < 8; m++) {
            int[] want = {m % 7, m, 15, 0, 0, m - 1, 0};
            for (int what = 0; what < want.length; what++) {
                due.due("remarkOf(" + (8 + m) + ", " + what + ")", x.remarkOf(8 + m, what), want[what]);
            }
        }
        due.due("a 17th", x.again(1, 2), -7);
    }

    /** One more than there may be, of either: "(nothing is made then)". */
    private static void againOverfills() {
        LineRemarks x = Scenes.chain("a", "b", "c");
        for (int m = 0; m < 9; m++) {
            x.remark(0, 0, 1, 0, 0, -1);
        }
        due.due("9 and 9", x.again(1, 0), -7);
        due.due("nothing is made", x.status(0) * 100 + x.status(1), 309);
        due.due("no such REVISION", x.lines(3), -1);
        x.settle(4, true);
        due.due("9 and 8", x.again(1, 0), -7);
        due.due("nothing is made", x.status(0) * 100 + x.status(1), 309);
        x.settle(8, true);
        due.due("9 and 7", x.again(1, 0), 7);
        due.due("all is made", x.status(0) * 100 + x.status(1), 416);
        due.due("16 REMARKS, but none to make", x.again(2, 0), 0);
        due.due("that is made", x.status(0), 5);
        due.due("counted", x.status(17), 2);
        LineRemarks y = Scenes.chain("a", "b");
        y.remark(0, 0, 1, 0, 0, -1);
        y.drift(14);
        due.due("a 17th REVISION", y.again(1, 0), -7);
        due.due("nothing is made", y.status(0) * 100 + y.status(1), 1601);
    }

    /** "r is in the CHAIN of b" alone is refused: beside, behind and its own FORMER are taken. */
    private static void againWithFormers() {
        LineRemarks x = Scenes.chain("a", "b", "c");
        Checks.revise(x, "d", 0);
        Checks.revise(x, "e", -1);
        int[][] wrong = {{0, 0}, {1, 1}, {0, 1}, {0, 2}, {1, 2}, {0, 3}, {4, 4}};
        for (int[] pair : wrong) {
            due.due("again " + pair[0] + ", " + pair[1], x.again(pair[0], pair[1]), -6);
        }
        due.due("none is made", x.status(0), 5);
        int[][] right = {{1, 0}, {2, 0}, {2, 1}, {1, 3}, {3, 2}, {0, 4}, {4, 0}, {4, 2}, {2, 6}};
        for (int k = 0; k < right.length; k++) {
            due.due("again " + right[k][0] + ", " + right[k][1], x.again(right[k][0], right[k][1]), 0);
            due.due("FORMER", x.former(5 + k), right[k][1]);
        }
        due.due("again of what was MADE AGAIN with what is behind it", x.again(6, 13), -6);
    }

    /** "each REMARK made on r that isn't SETTLED", "in the order of numbers, under the next numbers". */
    private static void againOfAgain() {
        LineRemarks x = Scenes.chain("a/b", "b/c");
        x.remark(0, 1, 0, 0, 0, -1);
        x.remark(1, 2, 1, 0, 1, 0);
        x.remark(2, 3, 0, 1, 1, 1);
        x.remark(3, 4, 1, 1, 1, 2);
        x.remark(4, 5, 1, 0, 0, 3);
        x.settle(3, true);
        due.due("two of three", x.again(1, 0), 2);
        due.due("1 ANSWERS 0", x.remarkOf(5, 5), 0);
        due.due("4 ANSWERS a SETTLED one", x.remarkOf(6, 5), 3);
        due.due("a", x.remarkOf(5, 1) * 10 + x.remarkOf(6, 1), 25);
        due.due("not SETTLED", x.remarkOf(5, 6) + x.remarkOf(6, 6), 0);
        due.due("SETTLED ones", x.status(2), 1);
        due.due("those of that again", x.again(2, 1), 2);
        due.due("ANSWERING the same", x.remarkOf(7, 5) * 10 + x.remarkOf(8, 5), 3);
        due.due("on the new one", x.remarkOf(7, 2) * 10 + x.remarkOf(8, 2), 33);
        due.due("how many ANSWER 0, and so on", x.remarkOf(0, 8), 8);
        due.due("PUT on the new one", x.who(3, 0) & 0x180, 0x180);
        due.due("not on the old one", x.who(2, 0) & 0x180, 0);
        for (int m : new int[] {1, 5, 7}) {
            due.due("MOVES by its own number, the same a", x.act(m, 0, 100), 100 + m + 2);
        }
    }

    /** "n (1 to 15)"; "more REVISIONS than may be". */
    private static void driftCounts() {
        for (int n = 1; n <= 15; n++) {
            LineRemarks x = Scenes.chain("a/b/c");
            due.due("drift " + n, x.drift(n), n);
            due.due("REVISIONS", x.status(0), n + 1);
            for (int r = 1; r <= n; r++) {
                due.due("FORMER", x.former(r), r - 1);
            }
            due.due("one more than fits", x.drift(16 - n), -7);
            if (n < 15) {
                due.due("all that fit", x.drift(15 - n), 15);
            }
            due.due("none fits", x.drift(1), -7);
        }
        LineRemarks x = Scenes.chain("a");
        due.due("0", x.drift(0), -6);
        due.due("16", x.drift(16), -6);
        due.due("SEED stays", x.status(7), 1);
        LineRemarks y = Scenes.chain("a");
        LineRemarks z = Scenes.chain("a");
        y.drift(15);
        for (int k = 0; k < 15; k++) {
            z.drift(1);
        }
        for (int r = 0; r < 16; r++) {
            due.same("15 at once or one by one", Checks.text(y, r), Checks.text(z, r));
        }
        due.due("SEED", y.status(7), z.status(7));
    }

    /** "a new REVISION with the latest as FORMER": that of the greatest number, wherever it stands. */
    private static void driftOfLatest() {
        LineRemarks x = Scenes.chain("a/b", "c/d");
        Checks.revise(x, "e/f", 0);
        due.due("drift", x.drift(1), 3);
        due.due("FORMER", x.former(3), 2);
        x.again(1, 2);
        due.due("drift", x.drift(1), 5);
        due.due("FORMER", x.former(5), 4);
    }

    /** "of its LINES": not those of a text that wasn't taken, of what was restored, of another REVISION. */
    private static void driftOfItsLines() {
        int goes = seedOf(1, 0);
        LineRemarks x = Scenes.chain("aa");
        Checks.revise(x, "bb/cc/d{", -1);
        x.seed(goes);
        due.due("after a FAULT", x.drift(1), 1);
        due.due("the only LINE goes", x.lines(1), 0);
        int changes = seedOf(3, 0);
        LineRemarks y = Scenes.chain("aa");
        y.image();
        Checks.revise(y, "bb/cc", -1);
        y.restore();
        y.seed(changes);
        due.due("after restore", y.drift(1), 1);
        due.same("the only LINE becomes z", Checks.text(y, 1), "z");
        LineRemarks z = Scenes.chain("aa", "bb");
        Checks.write(z, 0, 0, "c/d/e");
        due.due("no such FORMER", z.revise(0, 5), -1);
        z.seed(changes);
        due.due("after a text that wasn't read", z.drift(1), 2);
        due.same("the only LINE becomes z", Checks.text(z, 2), "z");
        due.same("the FORMER stays", Checks.text(z, 1), "bb");
        LineRemarks w = Scenes.chain("aa/bb");
        Checks.revise(w, "cc", -1);
        w.again(0, 1);
        w.seed(goes);
        due.due("after again", w.drift(1), 3);
        due.due("one of two goes", w.lines(3), 1);
        due.same("of two that stay", Checks.text(w, 2), "aa/bb");
    }

    private static int drawn(int seed, int n) {
        return (Scenes.next(seed) >>> 16) % n;
    }

    /** A SEED of which the first DRAW below 4 is what, counted from a start on. */
    private static int seedOf(int what, int from) {
        int seed = from;
        while (drawn(seed, 4) != what) {
            seed++;
        }
        return seed;
    }

    private static List<String> lines(int n) {
        List<String> lines = new ArrayList<>();
        for (int i = 0; i < n; i++) {
            lines.add("" + (char) ('a' + i) + 'x');
        }
        return lines;
    }

    /** One DRIFT of 0, 1, 2, 23 and 24 LINES, each what, from some SEEDS: the LINES and the SEED after. */
    private static void driftLines() {
        for (int n : new int[] {0, 1, 2, 3, 23, 24}) {
            for (int what = 0; what < 4; what++) {
                for (int from : new int[] {0, 1000, -1000, MOST - 100, LEAST, 123456789}) {
                    int seed = seedOf(what, from);
                    LineRemarks x = Scenes.chain(String.join("/", lines(n)));
                    x.seed(seed);
                    x.drift(1);
                    due.same("what " + what + " of " + n, Checks.text(x, 1), String.join("/", drifted(n, what, seed)));
                    int draws = n == 0 ? 1 : 2;
                    draws += what == 0 && n < 24 ? 1 : 0;
                    int after = seed;
                    for (int k = 0; k < draws; k++) {
                        after = Scenes.next(after);
                    }
                    due.due("SEED after " + draws + " DRAWS", x.status(7), after);
                }
            }
        }
    }

    private static List<String> drifted(int n, int what, int seed) {
        List<String> lines = lines(n);
        int second = Scenes.next(seed);
        int at = n == 0 ? 0 : drawn(second, n);
        int third = n == 0 ? second : Scenes.next(second);
        if (what == 0 && n < 24) {
            lines.add(at, "" + (char) ('a' + drawn(third, 26)));
        } else if (what == 1 && n > 0) {
            lines.remove(at);
        } else if (what == 2 && n > 0) {
            lines.add(0, lines.remove(at));
        } else if (what == 3 && n > 0) {
            lines.set(at, "z");
        }
        return lines;
    }

    /** "a DRAW below 26 behind a": a and z are drawn, and nothing beyond. */
    private static void driftPutsIn() {
        boolean[] seen = new boolean[26];
        for (int seed = 0; seed < 800; seed++) {
            if (drawn(seed, 4) != 0) {
                continue;
            }
            LineRemarks x = Scenes.chain("");
            x.seed(seed);
            x.drift(1);
            due.due("one LINE", x.lines(1), 1);
            int letter = x.letter(1, 0, 0) - 'a';
            due.due("of one letter", x.letter(1, 0, 1), 0);
            due.due("letter by " + seed, letter, drawn(Scenes.next(seed), 26));
            seen[letter] = true;
        }
        for (int k = 0; k < 26; k++) {
            due.that("letter " + k + " was drawn", seen[k]);
        }
    }

    /** "(an int, wrapping); its upper 16 bits, no sign": SEEDS worked out by hand. */
    private static void drawsWrap() {
        // 1 * 1103515245 + 12345 is 1103527590; its upper 16 bits 16838, below 4: 2.
        LineRemarks x = Scenes.chain("a/b");
        x.drift(1);
        // That times 1103515245 and 12345 wraps to -1770082073; without a sign 38526, below 2: 0.
        due.same("LINE 0 goes to the front", Checks.text(x, 1), "a/b");
        due.due("SEED", x.status(7), -1770082073);
        LineRemarks y = Scenes.chain("");
        y.seed(-1);
        // -1103502900: its upper 16 bits without a sign are 48697, below 4: 1. Nothing goes.
        y.drift(1);
        due.due("SEED", y.status(7), -1103502900);
        due.due("lines", y.lines(1), 0);
    }

    /** The least and the greatest upper 16 bits: 0 and 65535, of which 3 are left by 4. */
    private static void drawBounds() {
        int least = 0;
        int most = 0;
        while (Scenes.next(least) >>> 16 != 0) {
            least++;
        }
        while (Scenes.next(most) >>> 16 != 65535) {
            most++;
        }
        LineRemarks x = Scenes.chain("aa");
        x.seed(most);
        x.drift(1);
        due.same("65535 is 3 by 4", Checks.text(x, 1), "z");
        LineRemarks y = Scenes.chain("aa");
        y.seed(least);
        y.drift(1);
        due.due("0 is 0 by 4: a LINE is put in", y.lines(1), 2);
        due.due("ahead of that one", y.letter(1, 1, 1), 'a');
    }

    private static void seedBounds() {
        LineRemarks x = new LineRemarks();
        int was = 1;
        for (int v : new int[] {LEAST, MOST, 0, -1, 1, 12345, LEAST}) {
            due.due("SEED", x.seed(v), was);
            due.due("status", x.status(7), v);
            was = v;
        }
        for (int what = 11; what < 18; what++) {
            due.due("nothing refused", x.status(what), 0);
        }
    }

    /** "with x (wrapping)": each KIND's MOVES at the ends of the ints, by what Java's own ints do. */
    private static void actsWrap() {
        LineRemarks x = Scenes.chain("a");
        for (int kind = 0; kind < 7; kind++) {
            x.remark(kind, 9, 0, 0, 0, -1);
        }
        for (int v : new int[] {MOST, MOST - 5, LEAST, LEAST + 5, 1 << 30, -(1 << 30), 715827883}) {
            for (int m = 0; m < 7; m++) {
                due.due("points of " + m + " with " + v, x.act(m, 0, v), points(m, v));
                due.due("weighs of " + m + " with " + v, x.act(m, 1, v), weighs(m, v));
                due.due("clings of " + m + " with " + v, x.act(m, 2, v), clings(m, v));
            }
        }
        LineRemarks y = Scenes.chain("a");
        y.remark(4, 0, 0, 0, 0, -1);
        // weighs(LEAST) is 0, points(LEAST) LEAST: clings is - LEAST, which is LEAST.
        due.due("minus the least is the least", y.act(0, 2, LEAST), LEAST);
    }

    private static int points(int m, int x) {
        switch (m) {
            case 1:
                return x + m + 9;
            case 3:
                return x + 1 + m + 9;
            case 4:
                return x + m - m;
            case 6:
                return (x + 1 + m + 9) * 2;
            default:
                return x + m;
        }
    }

    private static int weighs(int m, int x) {
        return points(m, m == 6 ? x - 9 : x) * 2 * (m == 2 || m == 5 ? 3 : 1);
    }

    private static int clings(int m, int x) {
        int plain = weighs(m, x) ^ points(m, x - 9);
        return m == 4 ? -plain : m == 5 ? plain ^ 5 : plain;
    }

    /** "0, and no TRACE then: no such one, move": of each KIND. */
    private static void noSuchMove() {
        LineRemarks x = Scenes.chain("a");
        for (int kind = 0; kind < 7; kind++) {
            x.remark(kind, 3, 0, 0, 0, -1);
            for (int move : new int[] {LEAST, -3, -2, -1, 3, 4, 5, 6, MOST}) {
                x.act(kind, 0, 8);
                due.due("MOVE " + move + " of " + kind, x.act(kind, move, 8), 0);
                due.due("no TRACE then", x.trace(0), -1);
                due.due("no bodies then", x.status(9), 0);
            }
            due.due("no such REMARK", x.act(kind + 1, 0, 8), 0);
        }
        for (int what = 11; what < 18; what++) {
            due.due("nothing refused", x.status(what), 0);
        }
    }

    /** The most bodies that a MOVE runs are 11; what is behind is NONE, and all are counted. */
    private static void longestTrace() {
        LineRemarks x = Scenes.chain("a");
        x.remark(6, 0, 0, 0, 0, -1);
        x.act(0, 2, 0);
        int[] bodies = {12, 71, 11, 70, 40, 20, 10, 70, 40, 20, 10};
        for (int i = 0; i < 30; i++) {
            due.due("trace " + i, x.trace(i), i < bodies.length ? bodies[i] : -1);
        }
        due.due("bodies", x.status(9), 11);
        due.due("trace -1", x.trace(-1), -1);
        due.due("trace least", x.trace(LEAST), -1);
        due.due("trace most", x.trace(MOST), -1);
    }

    /** "in the latest act()": a shorter one leaves nothing of a longer one. */
    private static void traceOfLatest() {
        LineRemarks x = Scenes.chain("a");
        x.remark(6, 0, 0, 0, 0, -1);
        x.remark(0, 0, 0, 0, 0, -1);
        due.due("none yet", x.trace(0), -1);
        x.act(0, 2, 0);
        x.act(1, 0, 0);
        due.due("the one", x.trace(0), 10);
        due.due("no second", x.trace(1), -1);
        due.due("bodies", x.status(9), 1);
        x.settle(0, true);
        x.drift(1);
        due.due("it stays till the next", x.trace(0), 10);
        due.due("act of none", x.act(2, 0, 0), 0);
        due.due("no TRACE then", x.trace(0), -1);
        due.due("no bodies then", x.status(9), 0);
        x.act(0, 0, 0);
        due.due("act of no MOVE", x.act(0, 3, 0), 0);
        due.due("no TRACE then", x.trace(0), -1);
        due.due("no bodies then", x.status(9), 0);
    }

    /** THE IMAGE of a new object; "how many REMARKS": 0. */
    private static void imageOfNone() {
        LineRemarks x = new LineRemarks();
        due.due("there is none", x.restore(), -6);
        due.due("image", x.image(), 0);
        Checks.revise(x, "a", -1);
        x.remark(0, 0, 0, 0, 0, -1);
        x.settle(0, true);
        x.show(0, 0);
        due.due("restore", x.restore(), 0);
        due.due("nothing there", x.status(0) + x.status(1) + x.status(2) + x.status(3) + x.status(8), 0);
        due.due("lines", x.lines(0), -1);
        due.due("holds NOTHING", x.holds(0), -1);
        due.due("numbers from 0 on", Checks.revise(x, "b", -1), 0);
        due.due("numbers from 0 on", x.remark(1, 0, 0, 0, 0, -1), 0);
        due.due("not SETTLED", x.remarkOf(0, 6), 0);
    }

    /** THE IMAGE of 16 and 16, restored over less and over others. */
    private static void imageOfFull() {
        LineRemarks x = new LineRemarks();
        x.image();
        for (int r = 0; r < 16; r++) {
            Checks.revise(x, "k/".repeat(r % 4) + "a", r - 1);
        }
        for (int m = 0; m < 16; m++) {
            x.remark(m % 7, m % 10, m, 0, 0, m - 1);
        }
        x.settle(15, true);
        due.due("image", x.image(), 16);
        for (int m = 0; m < 16; m++) {
            x.settle(m, m % 2 == 0);
        }
        due.due("restore", x.restore(), 16);
        due.due("REVISIONS", x.status(0), 16);
        due.due("SETTLED", x.status(2), 1);
        for (int m = 0; m < 16; m++) {
            due.due("SETTLED " + m, x.remarkOf(m, 6), m == 15 ? 1 : 0);
            due.due("REVISION " + m, x.remarkOf(m, 2), m);
        }
        due.due("a 17th", x.remark(0, 0, 0, 0, 0, -1), -7);
        due.due("a 17th", x.drift(1), -7);
        due.due("through", x.through(0, 15, 0), 3);
    }

    /** "is taken": the latest one counts, and restoring takes nothing from it. */
    private static void imageOfLatest() {
        LineRemarks x = Scenes.chain("a");
        due.due("image", x.image(), 0);
        x.remark(0, 0, 0, 0, 0, -1);
        x.seed(5);
        due.due("image", x.image(), 1);
        x.remark(0, 0, 0, 0, 0, -1);
        x.seed(6);
        for (int times = 0; times < 3; times++) {
            due.due("restore", x.restore(), 1);
            due.due("REMARKS", x.status(1), 1);
            due.due("SEED", x.seed(9), 5);
            x.remark(0, 0, 0, 0, 0, -1);
            x.settle(0, true);
        }
        due.due("restore", x.restore(), 1);
        due.due("not SETTLED", x.remarkOf(0, 6), 0);
    }

    /** "(and THE IMAGE, REFUSALS, the FAULT, THE TRACE)", ROWS in SHELVES: these stay as they are. */
    private static void restoreLeaves() {
        LineRemarks x = Scenes.chain("a");
        x.remark(6, 0, 0, 0, 0, -1);
        Checks.tell(x, 0, 3, 4, 5);
        x.row(1, 1, 0);
        x.act(0, 0, 0);
        x.image();
        Checks.revise(x, "a{", -1);
        x.lines(9);
        x.act(0, 2, 0);
        x.set(0, 1, 6);
        x.row(2, 2, 1);
        x.row(1, 0, 3);
        due.due("restore", x.restore(), 1);
        due.due("FAULT", x.fault(), 1);
        due.due("REFUSALS", x.status(11) * 10 + x.status(16), 11);
        due.due("TRACE", x.trace(0) * 100 + x.status(9), 1211);
        due.due("elements", x.element(0, 0) * 10 + x.element(0, 1), 46);
        due.due("a ROW that is new", x.holds(2), 102);
        due.due("a ROW of another SORT", x.holds(1), 100);
        due.due("its size", x.set(1, 2, 1), 1);
        due.due("as for rules", x.status(5), 99);
    }

    /** "SHELVES with REMARKS hold those of these numbers, or NOTHING". */
    private static void restoreShelves() {
        LineRemarks x = Scenes.chain("a/b");
        x.remark(0, 1, 0, 0, 0, -1);
        x.remark(1, 2, 0, 1, 1, -1);
        due.due("image", x.image(), 2);
        x.remark(1, 3, 0, 1, 1, -1);
        for (int from = 0; from < 3; from++) {
            x.restore();
            x.remark(1, 3, 0, 1, 1, -1);
            for (int s = 0; s < 8; s++) {
                x.show(s, (s + from) % 3);
            }
            due.due("restore", x.restore(), 2);
            for (int s = 0; s < 8; s++) {
                due.due("SHELF " + s, x.holds(s), (s + from) % 3 == 2 ? -1 : (s + from) % 3);
                due.due("says", x.says(s, 0), (s + from) % 3 == 2 ? -3 : (s + from) % 3);
            }
        }
        LineRemarks y = Scenes.chain("a/b");
        y.image();
        y.remark(1, 7, 0, 0, 0, -1);
        y.show(0, 0);
        y.restore();
        y.remark(2, 8, 0, 0, 1, -1);
        due.due("NOTHING, though that number is there again", y.holds(0), -1);
        LineRemarks z = Scenes.chain("a/b");
        z.image();
        z.remark(1, 7, 0, 1, 1, -1);
        z.image();
        z.restore();
        z.show(0, 0);
        z.restore();
        due.due("that of this number, as THE IMAGE has it", z.says(0, 0) * 10 + z.says(0, 1), 17);
    }

    /** Numbers that were used up are there again. */
    private static void restoreGivesRoom() {
        LineRemarks x = Scenes.chain("a", "b");
        x.remark(0, 0, 0, 0, 0, -1);
        x.image();
        for (int times = 0; times < 3; times++) {
            due.due("drift", x.drift(14), 15);
            due.due("full", x.drift(1), -7);
            for (int m = 1; m < 16; m++) {
                due.due("remark", x.remark(0, 0, 0, 0, 0, -1), m);
            }
            due.due("full", x.remark(0, 0, 0, 0, 0, -1), -7);
            due.due("restore", x.restore(), 1);
            due.due("REVISIONS", x.status(0), 2);
            due.due("REMARKS", x.status(1), 1);
            due.due("SEED", x.status(7), 1);
        }
    }

    /** 0 to 9 and 11 to 17; "NONE for another what". */
    private static void statusBounds() {
        LineRemarks x = Scenes.chain("a/b", "c");
        for (int what : new int[] {LEAST, -17, -11, -1, 10, 18, 19, 100, MOST}) {
            due.due("status " + what, x.status(what), -1);
        }
        due.due("LINES of the latest", x.status(8), 1);
        Checks.revise(x, "", 0);
        due.due("LINES of an empty one", x.status(8), 0);
        Checks.revise(x, Scenes.ALL, -1);
        due.due("LINES of a full one", x.status(8), 24);
        x.remark(0, 0, 0, 0, 0, -1);
        x.remark(0, 0, 0, 0, 0, 0);
        x.remark(0, 0, 0, 0, 0, -1);
        due.due("OPEN ones that ANSWER none", x.status(3), 2);
        x.settle(0, true);
        due.due("OPEN by what ANSWERS it", x.status(3), 2);
        x.settle(1, true);
        due.due("one", x.status(3), 1);
        x.settle(2, true);
        due.due("none", x.status(3), 0);
        due.due("SETTLED", x.status(2), 3);
    }

    /** "used for at most 512 calls": the 512th is answered as the first, of the dearest ones too. */
    private static void all512Calls() {
        LineRemarks x = new LineRemarks();
        x.row(0, 0, 47);
        int calls = 1;
        for (int i = 0; i < 47; i++) {
            x.set(0, i, i % 2 == 0 ? 'a' + i / 2 : '/');
            calls++;
        }
        for (int r = 0; r < 16; r++) {
            due.due("revise", x.revise(0, r - 1), r);
            calls++;
        }
        for (int m = 0; m < 16; m++) {
            due.due("remark", x.remark(m % 7, 9, 0, 0, 23, m - 1), m);
            calls++;
        }
        for (; calls < 510; calls++) {
            due.due("call " + calls, calls % 2 == 0 ? x.who(15, 0) : x.rule(0, 2), calls % 2 == 0 ? 0xFFFF : 2);
        }
        due.due("the 511th", x.covered(15), (1 << 24) - 1);
        due.due("the 512th", x.inOrder(15, 15), 15);
    }
}
