/** The least and the greatest that REMARKS take: SPANS, a, ANSWERS, each KIND's bounds, NEED, MARGIN, CONTEXT. */
public final class RemarkLimitsTest {
    private static final Checks due = new Checks("RemarkLimitsTest");
    private static final int GONE = -1000 - 10 + 3;

    public static void main(String[] args) {
        spans();
        kindsAndA();
        answers();
        sixteen();
        trees();
        openByTheLast();
        settledTwice();
        remarkFollows();
        pointFollows();
        blockFollows();
        blockPermuted();
        looseTenths();
        looseOfThree();
        wallLonger();
        caretFollows();
        caretByMoved();
        tailFollows();
        stepByStep();
        looseAsItIsNow();
        wallStepByStep();
        lostStaysLost();
        latestSpan();
        contextEnds();
        needBounds();
        needOfNothing();
        marginBounds();
        marginTwenty();
        marginNought();
        onePlace();
        greatestScore();
        backAtEnds();
        scorePlaces();
        scoreWhereItFollows();
        fittingBounds();
        longChain();
        due.end();
    }

    /** "its SPAN there: LINES p to q": one LINE, all of them, the first, the last. */
    private static void spans() {
        LineRemarks x = Scenes.chain(Scenes.ALL);
        int[][] spans = {{0, 0}, {23, 23}, {0, 23}, {0, 1}, {22, 23}, {11, 12}};
        for (int m = 0; m < spans.length; m++) {
            due.due("remark", x.remark(m, 5, 0, spans[m][0], spans[m][1], -1), m);
            due.due("p", x.remarkOf(m, 3), spans[m][0]);
            due.due("q", x.remarkOf(m, 4), spans[m][1]);
            due.due("MADE", Checks.put(x, m, 0), spans[m][0] * 1000 + spans[m][1] * 10);
        }
        due.due("q 24", x.remark(0, 0, 0, 0, 24, -1), -5);
        due.due("p 24", x.remark(0, 0, 0, 24, 24, -1), -5);
        due.due("p -1", x.remark(0, 0, 0, -1, 0, -1), -5);
        due.due("q ahead of p", x.remark(0, 0, 0, 23, 22, -1), -5);
        LineRemarks y = Scenes.chain("a");
        due.due("the only LINE", y.remark(0, 0, 0, 0, 0, -1), 0);
        due.due("none behind it", y.remark(0, 0, 0, 0, 1, -1), -5);
    }

    /** "a (0 to 9)", KINDS 0 to 6. */
    private static void kindsAndA() {
        LineRemarks x = Scenes.chain("a");
        for (int a = 0; a <= 9; a++) {
            due.due("a " + a, x.remark(0, a, 0, 0, 0, -1), a);
            due.due("a", x.remarkOf(a, 1), a);
        }
        due.due("a 10", x.remark(0, 10, 0, 0, 0, -1), -6);
        due.due("a -1", x.remark(0, -1, 0, 0, 0, -1), -6);
        LineRemarks y = Scenes.chain("a");
        for (int kind = 0; kind <= 6; kind++) {
            due.due("KIND " + kind, y.remark(kind, 0, 0, 0, 0, -1), kind);
            due.due("KIND", y.remarkOf(kind, 0), kind);
        }
        due.due("KIND 7", y.remark(7, 0, 0, 0, 0, -1), -1);
        due.due("KIND -1", y.remark(-1, 0, 0, 0, 0, -1), -1);
    }

    /** "what it ANSWERS: an earlier REMARK, or NONE": not itself, not a later one. */
    private static void answers() {
        LineRemarks x = Scenes.chain("a", "b");
        for (int m = 0; m < 16; m++) {
            due.due("itself", x.remark(0, 0, 0, 0, 0, m), -1);
            due.due("a later one", x.remark(0, 0, 0, 0, 0, m + 1), -1);
            int answers = m == 0 || m % 4 == 3 ? -1 : m % 4 == 2 ? m - 1 : 0;
            due.due("ANSWERS " + answers, x.remark(0, 0, m % 2, 0, 0, answers), m);
            due.due("answers", x.remarkOf(m, 5), answers);
        }
        due.due("-2", x.remark(0, 0, 0, 0, 0, -2), -1);
        due.due("REVISION", x.remarkOf(14, 2) * 10 + x.remarkOf(15, 2), 1);
    }

    /** "REMARKS have numbers, from 0 on, 16 at most". */
    private static void sixteen() {
        LineRemarks x = Scenes.chain("a");
        for (int m = 0; m < 16; m++) {
            due.due("how many", x.status(1), m);
            due.due("none of the number yet", x.remarkOf(m, 0), -5);
            due.due("nor to be SETTLED", x.settle(m, true), -1);
            due.due("nor to be PUT", x.put(m, 0, 0), -11);
            due.due("remark", x.remark(0, 0, 0, 0, 0, -1), m);
            due.due("its KIND", x.remarkOf(m, 0), 0);
        }
        due.due("a 17th", x.remark(0, 0, 0, 0, 0, -1), -7);
        due.due("how many", x.status(1), 16);
        due.due("all on 0", x.who(0, 0), 0xFFFF);
        due.due("OPEN ones that ANSWER none", x.status(3), 16);
        for (int m = 0; m < 16; m++) {
            x.settle(m, true);
        }
        due.due("all SETTLED", x.status(2), 16);
        due.due("none OPEN", x.status(3), 0);
    }

    /** DEPTH and THREAD, 0 to 15 each: one behind the other, and all under the first. */
    private static void trees() {
        LineRemarks x = Scenes.chain("a");
        LineRemarks y = Scenes.chain("a");
        for (int m = 0; m < 16; m++) {
            x.remark(0, 0, 0, 0, 0, m - 1);
            y.remark(0, 0, 0, 0, 0, m == 0 ? -1 : 0);
        }
        for (int m = 0; m < 16; m++) {
            due.due("DEPTH in a row", x.remarkOf(m, 7), m);
            due.due("THREAD in a row", x.remarkOf(m, 8), 15 - m);
            due.due("DEPTH under the first", y.remarkOf(m, 7), m == 0 ? 0 : 1);
            due.due("THREAD under the first", y.remarkOf(m, 8), m == 0 ? 15 : 0);
        }
        due.due("they ANSWER, but one", x.status(3) * 10 + y.status(3), 11);
    }

    /** "OPEN: it isn't SETTLED, or any in its THREAD isn't": by the 15th that ANSWERS. */
    private static void openByTheLast() {
        LineRemarks x = Scenes.chain("a");
        for (int m = 0; m < 16; m++) {
            x.remark(0, 0, 0, 0, 0, m - 1);
        }
        for (int m = 0; m < 15; m++) {
            due.due("OPEN at first", x.remarkOf(m, 9), 1);
            x.settle(m, true);
        }
        for (int m = 0; m < 16; m++) {
            due.due("OPEN by the last", x.remarkOf(m, 9), 1);
        }
        due.due("OPEN ones that ANSWER none", x.status(3), 1);
        x.settle(15, true);
        for (int m = 0; m < 16; m++) {
            due.due("none OPEN", x.remarkOf(m, 9), 0);
        }
        due.due("OPEN ones that ANSWER none", x.status(3), 0);
        x.settle(7, false);
        for (int m = 0; m < 16; m++) {
            due.due("OPEN to the 7th", x.remarkOf(m, 9), m <= 7 ? 1 : 0);
        }
        due.due("SETTLED", x.status(2), 15);
    }

    /** "whether it was (1, 0)"; not SETTLED at first; once more changes nothing. */
    private static void settledTwice() {
        LineRemarks x = Scenes.chain("a");
        for (int m = 0; m < 16; m++) {
            x.remark(0, 0, 0, 0, 0, -1);
        }
        for (int m : new int[] {0, 15}) {
            due.due("not at first", x.remarkOf(m, 6), 0);
            due.due("isn't, as it wasn't", x.settle(m, false), 0);
            due.due("it wasn't", x.settle(m, true), 0);
            due.due("it was", x.settle(m, true), 1);
            due.due("is", x.remarkOf(m, 6), 1);
        }
        due.due("two", x.status(2), 2);
        due.due("the others aren't", x.remarkOf(1, 6) + x.remarkOf(14, 6), 0);
        due.due("it was", x.settle(15, false), 1);
        due.due("it wasn't", x.settle(15, false), 0);
        due.due("one", x.status(2), 1);
        due.due("the first is yet", x.remarkOf(0, 6), 1);
    }

    /** REMARK: "from the least to the greatest PLACE": one LINE is enough, and any will do. */
    private static void remarkFollows() {
        LineRemarks x = Scenes.chain("x/a/b/c/y");
        x.remark(0, 0, 0, 1, 3, -1);
        x.remark(0, 0, 0, 0, 4, -1);
        String[] texts = {"x/a/y", "x/k/b/y", "x/c", "x/k/y", "x/a/k/k/k/c/y", "", "k", "a/b/c", "b"};
        int[] spans = {1011, 2021, 1011, GONE, 1051, GONE, GONE, 21, 1};
        int[] whole = {21, 31, 11, 21, 61, GONE, GONE, 21, 1};
        for (int k = 0; k < texts.length; k++) {
            int r = Checks.revise(x, texts[k], 0);
            due.due("SPAN on " + texts[k], Checks.put(x, 0, r), spans[k]);
            due.due("of all on " + texts[k], Checks.put(x, 1, r), whole[k]);
        }
        x.rule(0, 1);
        // b ahead of a: the least PLACE isn't that of the first LINE.
        int r = Checks.revise(x, "c/b/a", 0);
        due.due("from c to a", Checks.put(x, 0, r), 21);
    }

    /** POINT: LINE p alone, though the SPAN is longer. */
    private static void pointFollows() {
        LineRemarks x = Scenes.chain("a/b/c");
        x.remark(1, 0, 0, 1, 2, -1);
        x.remark(1, 0, 0, 0, 2, -1);
        x.remark(1, 0, 0, 2, 2, -1);
        due.due("MADE with its SPAN", Checks.put(x, 0, 0), 1020);
        int r = Checks.revise(x, "b/c", 0);
        due.due("p", Checks.put(x, 0, r), 1);
        due.due("the first LINE is gone", Checks.put(x, 1, r), GONE);
        due.due("the last", Checks.put(x, 2, r), 1011);
        r = Checks.revise(x, "a/c", 0);
        due.due("p is gone, q isn't", Checks.put(x, 0, r), GONE);
        due.due("the first", Checks.put(x, 1, r), 1);
    }

    /** BLOCK: "LOST, if a LINE of the SPAN has no PLACE or the new SPAN is longer". */
    private static void blockFollows() {
        LineRemarks x = Scenes.chain("x/a/b/c/y");
        x.remark(2, 9, 0, 1, 3, -1);
        x.remark(2, 9, 0, 2, 2, -1);
        x.remark(2, 9, 0, 0, 4, -1);
        String[] texts = {"x/a/b/c/y", "a/b/c", "x/b/c/y", "x/a/c/y", "x/a/b/y", "x/a/k/b/c/y",
            "x/a/b/k/c/y", "x/k/a/b/c/k/y", "x/y", ""};
        int[] spans = {1031, 21, GONE, GONE, GONE, GONE, GONE, 2041, GONE, GONE};
        int[] one = {2021, 1011, 1011, GONE, 2021, 3031, 2021, 3031, GONE, GONE};
        int[] all = {41, GONE, GONE, GONE, GONE, GONE, GONE, GONE, GONE, GONE};
        for (int k = 0; k < texts.length; k++) {
            int r = Checks.revise(x, texts[k], 0);
            due.due("BLOCK on " + texts[k], Checks.put(x, 0, r), spans[k]);
            due.due("of one LINE on " + texts[k], Checks.put(x, 1, r), one[k]);
            due.due("of all on " + texts[k], Checks.put(x, 2, r), all[k]);
        }
    }

    /** As long a SPAN as it was isn't longer, though the LINES have another order. */
    private static void blockPermuted() {
        LineRemarks x = Scenes.chain("a/b/c/d", "c/d/a/b", "c/d/k/a/b");
        x.remark(2, 0, 0, 0, 3, -1);
        x.remark(5, 0, 0, 0, 3, -1);
        x.remark(5, 1, 0, 0, 3, -1);
        for (int m = 0; m < 3; m++) {
            due.due("as long", Checks.put(x, m, 1), 31);
        }
        due.due("BLOCK longer", Checks.put(x, 0, 2), GONE);
        due.due("WALL longer by 1 than 0", Checks.put(x, 1, 2), GONE);
        due.due("WALL longer by 1", Checks.put(x, 2, 2), 41);
    }

    /** LOOSE: "10 times how many LINES of the SPAN have a PLACE is below a times how many it has": of 10. */
    private static void looseTenths() {
        String ten = "a/b/c/d/e/f/g/h/i/j/";
        for (int n = 0; n <= 10; n++) {
            LineRemarks x = Scenes.chain("x/" + ten + "y", "x/" + ten.substring(0, 2 * n) + "y");
            for (int a = 0; a <= 9; a++) {
                x.remark(4, a, 0, 1, 10, -1);
                due.due(n + " of 10, a " + a, Checks.put(x, a, 1), n == 0 || n < a ? GONE : 1000 + n * 10 + 1);
            }
        }
    }

    private static void looseOfThree() {
        String[] texts = {"x/y", "x/b/y", "x/a/c/y", "x/a/b/c/y"};
        int[] spans = {GONE, 1011, 1021, 1031};
        int[] greatest = {-1, 3, 6, 9};
        for (int n = 0; n <= 3; n++) {
            LineRemarks x = Scenes.chain("x/a/b/c/y", texts[n]);
            for (int a = 0; a <= 9; a++) {
                x.remark(4, a, 0, 1, 3, -1);
                due.due(n + " of 3, a " + a, Checks.put(x, a, 1), a <= greatest[n] ? spans[n] : GONE);
            }
        }
    }

    /** WALL: "as BLOCK, but the new SPAN may be longer by a". */
    private static void wallLonger() {
        for (int longer = 0; longer <= 10; longer++) {
            LineRemarks x = Scenes.chain("x/a/b/y", "x/a/" + "k/".repeat(longer) + "b/y");
            for (int a = 0; a <= 9; a++) {
                x.remark(5, a, 0, 1, 2, -1);
                due.due("longer by " + longer + ", a " + a, Checks.put(x, a, 1),
                    longer > a ? GONE : 1000 + (longer + 2) * 10 + 1);
            }
            x.remark(2, 9, 0, 1, 2, -1);
            due.due("BLOCK", Checks.put(x, 10, 1), longer > 0 ? GONE : 1021);
            x.remark(0, 0, 0, 1, 2, -1);
            due.due("REMARK", Checks.put(x, 11, 1), 1000 + (longer + 2) * 10 + 1);
        }
        LineRemarks x = Scenes.chain("x/a/b/c/y", "x/b/c/y");
        x.remark(5, 9, 0, 1, 3, -1);
        due.due("a LINE has no PLACE", Checks.put(x, 0, 1), GONE);
    }

    /** CARET: "(p - 1, then p - 2, ..)": to LINE 0, and none behind p. */
    private static void caretFollows() {
        LineRemarks x = Scenes.chain("a/b/c/d/e");
        x.remark(3, 0, 0, 4, 4, -1);
        x.remark(3, 0, 0, 0, 4, -1);
        x.remark(3, 0, 0, 2, 4, -1);
        String[] texts = {"a/b/c/d/e", "a/b/c/d/k", "k/a/b", "a", "k", "", "d/e", "b/e", "c/d/e"};
        int[] last = {4041, 3031, 2021, 1, GONE, GONE, 1011, 1011, 2021};
        int[] first = {1, 1, 1011, 1, GONE, GONE, GONE, GONE, GONE};
        int[] mid = {2021, 2021, 2021, 1, GONE, GONE, GONE, 1, 1};
        for (int k = 0; k < texts.length; k++) {
            int r = Checks.revise(x, texts[k], 0);
            due.due("CARET at 4 on " + texts[k], Checks.put(x, 0, r), last[k]);
            due.due("at 0 on " + texts[k], Checks.put(x, 1, r), first[k]);
            due.due("at 2 on " + texts[k], Checks.put(x, 2, r), mid[k]);
        }
    }

    /** The next LINE ahead by its number on A, wherever its PLACE is on B. */
    private static void caretByMoved() {
        LineRemarks x = Scenes.chain("m/n/o/a/b/c", "a/k/m/n/o/b");
        x.remark(3, 0, 0, 5, 5, -1);
        due.due("b stays, though m, n, o moved", Checks.put(x, 0, 1), 5051);
        LineRemarks y = Scenes.chain("b/c/p/q/r/s", "p/q/r/k/b/c");
        y.remark(3, 0, 0, 1, 1, -1);
        y.remark(3, 0, 0, 5, 5, -1);
        due.due("c MOVED", Checks.put(y, 0, 1), 5051);
        due.due("r is next ahead of s", Checks.put(y, 1, 1), 2021);
        y.rule(0, 3);
        due.due("neither c nor b has a PLACE", Checks.put(y, 0, 1), GONE);
    }

    /** TAIL: "what a CARET comes to, but q is the last LINE of B". */
    private static void tailFollows() {
        LineRemarks x = Scenes.chain("a/b/c");
        x.remark(6, 0, 0, 1, 1, -1);
        x.remark(6, 0, 0, 2, 2, -1);
        String[] texts = {"a/b/c", "b", "b" + "/k".repeat(23), "k/k/b", "a/k", "c", "k", ""};
        int[] spans = {1021, 1, 231, 2021, 11, GONE, GONE, GONE};
        int[] last = {2021, 1, 231, 2021, 11, 1, GONE, GONE};
        for (int k = 0; k < texts.length; k++) {
            int r = Checks.revise(x, texts[k], 0);
            due.due("TAIL on " + texts[k], Checks.put(x, 0, r), spans[k]);
            due.due("of the last LINE on " + texts[k], Checks.put(x, 1, r), last[k]);
        }
        due.due("MADE with its SPAN", Checks.put(x, 0, 0), 1010);
    }

    /** "step by step": each KIND from the SPAN that it has on the FORMER, not from that as it is made. */
    private static void stepByStep() {
        LineRemarks x = Scenes.chain("x/a/b/y", "x/a/k/b/y", "x/k/y", "k/y", "x/a/b/y");
        for (int kind = 0; kind < 7; kind++) {
            x.remark(kind, 1, 0, 1, 2, -1);
        }
        int[][] puts = {
            {1020, 1031, 1011, 1, GONE},
            {1020, 1011, GONE, GONE, GONE},
            {1020, GONE, GONE, GONE, GONE},
            {1020, 1011, 1, GONE, GONE},
            {1020, 1031, 1011, 1, GONE},
            {1020, 1031, GONE, GONE, GONE},
            {1020, 1041, 21, GONE, GONE},
        };
        for (int kind = 0; kind < 7; kind++) {
            for (int t = 0; t < 5; t++) {
                due.due("KIND " + kind + " on " + t, Checks.put(x, kind, t), puts[kind][t]);
                int fits = 0;
                for (int as = 0; as < 7; as++) {
                    fits |= puts[as][t] == GONE ? 0 : 1 << as;
                }
                due.due("FITTING of " + kind + " on " + t, x.fitting(kind, t), fits);
            }
        }
    }

    /** LOOSE: "how many it has" on the FORMER, where it may have grown. */
    private static void looseAsItIsNow() {
        LineRemarks x = Scenes.chain("a/b", "a/k/k/b", "a/b");
        for (int a = 0; a <= 9; a++) {
            x.remark(4, a, 0, 0, 1, -1);
            due.due("all of 2, a " + a, Checks.put(x, a, 1), 31);
            due.due("2 of 4, a " + a, Checks.put(x, a, 2), a <= 5 ? 11 : GONE);
        }
    }

    /** WALL: longer by a at each step. */
    private static void wallStepByStep() {
        LineRemarks x = Scenes.chain("a/b", "a/k/b", "a/k/l/b", "a/k/l/m/n/b", "a/k/l/m/b");
        x.remark(5, 1, 0, 0, 1, -1);
        x.remark(5, 2, 0, 0, 1, -1);
        x.remark(5, 0, 0, 0, 1, -1);
        int[] one = {10, 21, 31, GONE, GONE};
        int[] two = {10, 21, 31, 51, GONE};
        for (int t = 0; t < 5; t++) {
            due.due("by 1, on " + t, Checks.put(x, 0, t), one[t]);
            due.due("by 2, on " + t, Checks.put(x, 1, t), two[t]);
            due.due("by 0, on " + t, Checks.put(x, 2, t), t == 0 ? 10 : GONE);
        }
    }

    /** "if it wasn't LOST on the FORMER, it FOLLOWS": else it doesn't, whatever LINES are alike. */
    private static void lostStaysLost() {
        LineRemarks x = Scenes.chain("x/a/y", "x/y", "x/a/y", "x/a/y");
        x.remark(0, 0, 0, 1, 1, -1);
        due.due("LOST", Checks.put(x, 0, 1), GONE);
        due.due("LOST yet", Checks.put(x, 0, 2), GONE);
        due.due("LOST yet", Checks.put(x, 0, 3), GONE);
        x.rule(1, 7);
        due.due("it COMES BACK", Checks.put(x, 0, 2), 1012);
        due.due("then it FOLLOWS", Checks.put(x, 0, 3), 1011);
        due.due("CONTEXT of 0", x.score(0, 2, 1), 7);
        due.due("CONTEXT of 2", x.score(0, 3, 1), 7);
    }

    /** "of its latest SPAN": as long as that was, grown or shrunk. */
    private static void latestSpan() {
        LineRemarks x = Scenes.chain("a/b", "a/k/b", "", "a/k/b/a/b");
        x.remark(0, 0, 0, 0, 1, -1);
        int[] scores = {11, 0, 5, -5};
        for (int s = 0; s < 4; s++) {
            due.due("SCORE of three LINES at " + s, x.score(0, 3, s), scores[s]);
        }
        x.rule(1, 11);
        due.due("as long a SPAN", Checks.put(x, 0, 3), 22);
        LineRemarks y = Scenes.chain("a/b/c", "b", "", "a/b/c");
        y.remark(0, 0, 0, 0, 2, -1);
        int[] one = {2, 3, 2, -5};
        for (int s = 0; s < 4; s++) {
            due.due("SCORE of one LINE at " + s, y.score(0, 3, s), one[s]);
        }
        y.rule(1, 3);
        due.due("as short a SPAN", Checks.put(y, 0, 3), 1012);
        due.due("no place on an empty REVISION", y.score(0, 2, 0), -5);
    }

    /** "(or that there is none)": ahead of LINE 0, behind the last; "or neither is there". */
    private static void contextEnds() {
        String[] texts = {"a", "k/a", "a/k", "k/a/k", "k", "a/a"};
        int[][] alone = {{7}, {2, 5}, {5, 2}, {2, 3, 2}, {4}, {5, 5}};
        int[][] between = {{3}, {0, 3}, {3, 0}, {0, 3, 0}, {0}, {3, 3}};
        for (int k = 0; k < texts.length; k++) {
            LineRemarks x = Scenes.chain("a", "", texts[k]);
            x.remark(0, 0, 0, 0, 0, -1);
            LineRemarks y = Scenes.chain("x/a/y", "", texts[k]);
            y.remark(0, 0, 0, 1, 1, -1);
            for (int s = 0; s < alone[k].length; s++) {
                due.due("alone, on " + texts[k] + " at " + s, x.score(0, 2, s), alone[k][s]);
                due.due("between two, on " + texts[k] + " at " + s, y.score(0, 2, s), between[k][s]);
            }
            due.due("no place", x.score(0, 2, alone[k].length), -5);
        }
        LineRemarks x = Scenes.chain("x/a/y", "", "x/a", "", "a/y");
        x.remark(0, 0, 0, 1, 1, -1);
        due.due("x ahead", x.score(0, 2, 1), 5);
        due.due("y behind", x.score(0, 4, 0), 5);
        due.due("neither", x.score(0, 4, 1), 0);
    }

    /** "If the greatest SCORE is NEED at least (0 to 99)": each NEED for a SCORE of 7. */
    private static void needBounds() {
        LineRemarks x = Scenes.chain("x/p/y", "", "x/p/y");
        x.remark(0, 0, 0, 1, 1, -1);
        for (int need = 0; need <= 99; need++) {
            x.rule(1, need);
            due.due("how by NEED " + need, x.put(0, 2, 2), need <= 7 ? 2 : 3);
            due.due("p by NEED " + need, x.put(0, 2, 0), need <= 7 ? 1 : -1);
        }
        LineRemarks y = new LineRemarks();
        Checks.revise(y, "x/p", -1);
        Checks.revise(y, "", 0);
        Checks.revise(y, "x/p/y", 1);
        Checks.revise(y, "x/p", 1);
        y.remark(0, 0, 0, 1, 1, -1);
        due.due("5 isn't 6, as NEED is at first", Checks.put(y, 0, 2), GONE);
        due.due("7 is", Checks.put(y, 0, 3), 1012);
    }

    /** NEED 0: a SCORE of 0 is enough, if there is a place at all. */
    private static void needOfNothing() {
        LineRemarks x = Scenes.chain("x/p/y", "k", "");
        x.remark(0, 0, 0, 1, 1, -1);
        x.rule(1, 0);
        due.due("one place of SCORE 0", Checks.put(x, 0, 1), 2);
        due.due("no place", Checks.put(x, 0, 2), GONE);
        x.rule(1, 1);
        due.due("NEED 1", Checks.put(x, 0, 1), GONE);
        LineRemarks y = Scenes.chain("x/p/y", "", "k/l");
        y.remark(0, 0, 0, 1, 1, -1);
        y.rule(1, 0);
        due.due("two places of SCORE 0, MARGIN 1", Checks.put(y, 0, 2), GONE);
        y.rule(2, 0);
        due.due("two places of SCORE 0, MARGIN 0", Checks.put(y, 0, 2), 2);
    }

    /** "each other place's is less by MARGIN at least (0 to 20)": each MARGIN for 7 and 0, and for 7 and 5. */
    private static void marginBounds() {
        LineRemarks x = Scenes.chain("x/p/y", "", "x/p/y");
        x.rule(1, 6);
        x.remark(0, 0, 0, 1, 1, -1);
        for (int margin = 0; margin <= 20; margin++) {
            x.rule(2, margin);
            due.due("7 and 0, MARGIN " + margin, x.put(0, 2, 2), margin <= 7 ? 2 : 3);
            due.due("LEAST NEED", x.leastNeed(0, 2), margin <= 7 ? 7 : -1);
        }
        LineRemarks y = Scenes.chain("x/p/y", "", "x/p/y/x/p");
        LineRemarks z = Scenes.chain("x/p/y", "", "x/p/k/x/p/y");
        y.rule(1, 6);
        z.rule(1, 6);
        y.remark(0, 0, 0, 1, 1, -1);
        z.remark(0, 0, 0, 1, 1, -1);
        for (int margin = 0; margin <= 20; margin++) {
            y.rule(2, margin);
            z.rule(2, margin);
            due.due("7 ahead of 5, MARGIN " + margin, Checks.put(y, 0, 2), margin <= 2 ? 1012 : GONE);
            due.due("7 behind 5, MARGIN " + margin, Checks.put(z, 0, 2), margin <= 2 ? 4042 : GONE);
        }
    }

    /** The greatest MARGIN: 22 and 2 keep it, 22 and 3 don't. */
    private static void marginTwenty() {
        String six = "x/a/b/c/d/e/f/y";
        LineRemarks x = Scenes.chain(six, "", six + "/x/k/k/k/k/k/k");
        LineRemarks y = Scenes.chain(six, "", six + "/k/a/k/k/k/k/k");
        for (LineRemarks z : new LineRemarks[] {x, y}) {
            z.rule(1, 22);
            z.remark(0, 0, 0, 1, 6, -1);
            due.due("the greatest", z.score(0, 2, 1), 22);
            z.rule(2, 20);
        }
        due.due("another", x.score(0, 2, 9), 2);
        due.due("another", y.score(0, 2, 9), 3);
        due.due("less by 20", Checks.put(x, 0, 2), 1062);
        due.due("less by 19", Checks.put(y, 0, 2), GONE);
        due.due("LEAST NEED", x.leastNeed(0, 2) * 100 + y.leastNeed(0, 2), 2199);
        y.rule(2, 19);
        due.due("MARGIN 19", Checks.put(y, 0, 2), 1062);
        due.due("LEAST NEED", y.leastNeed(0, 2), 22);
        y.rule(1, 23);
        due.due("NEED 23", Checks.put(y, 0, 2), GONE);
    }

    /** "(of several alike, with MARGIN 0, the first)". */
    private static void marginNought() {
        String[] texts = {"p/k/p/k/p", "k/p/k/p", "k/k/p/p"};
        int[] first = {2, 1012, 2022};
        for (int k = 0; k < texts.length; k++) {
            LineRemarks x = Scenes.chain("x/p/y", "", texts[k]);
            x.remark(0, 0, 0, 1, 1, -1);
            x.rule(1, 3);
            due.due("MARGIN 1 on " + texts[k], Checks.put(x, 0, 2), GONE);
            due.due("LEAST NEED", x.leastNeed(0, 2), -1);
            x.rule(2, 0);
            due.due("MARGIN 0 on " + texts[k], Checks.put(x, 0, 2), first[k]);
            due.due("LEAST NEED", x.leastNeed(0, 2), 3);
            x.rule(1, 4);
            due.due("NEED 4 on " + texts[k], Checks.put(x, 0, 2), GONE);
        }
        LineRemarks x = Scenes.chain("x/p/y", "", "k/l/k");
        x.remark(0, 0, 0, 1, 1, -1);
        x.rule(1, 0);
        x.rule(2, 0);
        due.due("all of SCORE 0", Checks.put(x, 0, 2), 2);
        due.due("LEAST NEED", x.leastNeed(0, 2), 0);
    }

    /** Where there is one place alone, no MARGIN can be broken. */
    private static void onePlace() {
        LineRemarks x = Scenes.chain("x/p/y", "", "p", "", "k");
        x.remark(0, 0, 0, 1, 1, -1);
        x.rule(2, 20);
        x.rule(1, 3);
        due.due("SCORE", x.score(0, 2, 0), 3);
        due.due("it COMES BACK", Checks.put(x, 0, 2), 2);
        due.due("LEAST NEED", x.leastNeed(0, 2), 3);
        x.rule(1, 4);
        due.due("NEED 4", Checks.put(x, 0, 2), GONE);
        due.due("LEAST NEED of none alike", x.leastNeed(0, 4), 0);
        due.due("LEAST NEED without a place", x.leastNeed(0, 3), -1);
    }

    /** 24 LINES, nothing ahead and nothing behind: 76. */
    private static void greatestScore() {
        LineRemarks x = Scenes.chain(Scenes.ALL, "", Scenes.ALL);
        x.remark(0, 0, 0, 0, 23, -1);
        x.remark(2, 0, 0, 0, 22, -1);
        due.due("SCORE", x.score(0, 2, 0), 76);
        due.due("no place 1", x.score(0, 2, 1), -5);
        due.due("of 23 LINES", x.score(1, 2, 0), 73);
        due.due("one further", x.score(1, 2, 1), 0);
        due.due("no place 2", x.score(1, 2, 2), -5);
        due.due("LEAST NEED", x.leastNeed(0, 2) * 100 + x.leastNeed(1, 2), 7673);
        x.rule(1, 77);
        due.due("NEED 77", Checks.put(x, 0, 2), GONE);
        x.rule(1, 76);
        due.due("NEED 76", Checks.put(x, 0, 2), 232);
        due.due("73 isn't 76", Checks.put(x, 1, 2), GONE);
        x.rule(1, 73);
        due.due("NEED 73", Checks.put(x, 1, 2), 222);
    }

    /** "a place s (0 to how many LINES B has less how many the SPAN had)": the first and the last of them. */
    private static void backAtEnds() {
        LineRemarks x = Scenes.chain("x/a/b/y", "", "a/b/k/k");
        x.rule(1, 6);
        x.remark(0, 0, 0, 1, 2, -1);
        due.due("place 0", Checks.put(x, 0, 2), 12);
        LineRemarks y = Scenes.chain("x/a/b/y", "", "k/k/a/b");
        y.rule(1, 6);
        y.remark(0, 0, 0, 1, 2, -1);
        due.due("the last place", Checks.put(y, 0, 2), 2032);
        LineRemarks z = Scenes.chain("x/a/b/y", "", "a/b");
        z.rule(1, 6);
        z.remark(0, 0, 0, 1, 2, -1);
        due.due("the only place", Checks.put(z, 0, 2), 12);
        LineRemarks w = Scenes.chain("x/a/b/y", "", "a", "a/b");
        w.rule(1, 0);
        w.rule(2, 0);
        w.remark(0, 0, 0, 1, 2, -1);
        due.due("less LINES than the SPAN had", Checks.put(w, 0, 2), GONE);
        due.due("as many", Checks.put(w, 0, 3), 12);
    }

    private static void scorePlaces() {
        LineRemarks x = Scenes.chain(Scenes.ALL, "", Scenes.ALL, "", "a");
        x.remark(0, 0, 0, 5, 5, -1);
        for (int s = 0; s < 24; s++) {
            due.due("place " + s, x.score(0, 2, s), s == 5 ? 7 : 0);
        }
        due.due("place 24", x.score(0, 2, 24), -5);
        due.due("place -1", x.score(0, 2, -1), -5);
        due.due("on one LINE", x.score(0, 4, 0), 0);
        due.due("no place 1 there", x.score(0, 4, 1), -5);
        due.due("none on an empty one", x.score(0, 3, 0), -5);
    }

    /** CONTEXT on t is that of the latest REVISION ahead of t, though it isn't LOST on t. */
    private static void scoreWhereItFollows() {
        LineRemarks x = Scenes.chain("x/a/y", "k/a/l", "x/a/y");
        x.remark(0, 0, 0, 1, 1, -1);
        due.due("it FOLLOWS", Checks.put(x, 0, 2), 1011);
        due.due("CONTEXT of 0 on 1", x.score(0, 1, 1), 3);
        due.due("CONTEXT of 1 on 2", x.score(0, 2, 1), 3);
        due.due("LEAST NEED", x.leastNeed(0, 2), 3);
        due.due("where it is made there is none", x.score(0, 0, 1), -6);
    }

    private static void fittingBounds() {
        LineRemarks x = Scenes.chain("a/b/c/d", "k", "", "a/b/c/d");
        for (int kind = 0; kind < 7; kind++) {
            x.remark(kind, kind, 0, 1, 2, -1);
            due.due("all where it is MADE, though of KIND " + kind, x.fitting(kind, 0), 127);
            due.due("none", x.fitting(kind, 1), 0);
            due.due("none on an empty one", x.fitting(kind, 2), 0);
            due.due("none LOST before", x.fitting(kind, 3), 0);
            x.rule(1, 0);
            due.due("POINT .. have a SPAN of two, which has no place", x.fitting(kind, 1), 0);
            due.due("all COME BACK", x.fitting(kind, 3), 127);
            x.rule(1, 99);
            due.due("its KIND stays", x.remarkOf(kind, 0), kind);
        }
    }

    /** PUT by 15 steps on 16 REVISIONS. */
    private static void longChain() {
        String[] texts = new String[16];
        for (int r = 0; r < 16; r++) {
            texts[r] = "k/".repeat(r) + "a/b/c";
        }
        LineRemarks x = Scenes.chain(texts);
        x.remark(2, 0, 0, 0, 1, -1);
        x.remark(6, 0, 0, 1, 1, -1);
        for (int r = 0; r < 16; r++) {
            due.due("BLOCK on " + r, Checks.put(x, 0, r), r * 1000 + (r + 1) * 10 + (r > 0 ? 1 : 0));
            int q = r > 0 ? (r + 2) * 10 + 1 : 10;
            due.due("TAIL on " + r, Checks.put(x, 1, r), (r + 1) * 1000 + q);
        }
        x.remark(0, 0, 15, 17, 17, -1);
        due.due("MADE on the last", Checks.put(x, 2, 15), 17170);
        due.due("not on the one ahead", x.put(2, 14, 0), -16);
    }
}
