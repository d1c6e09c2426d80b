/**
 * REFUSALS: each refused call of each promise, what it answers, which refusal goes before which other,
 * and that it changes nothing but how many there were, not what THE IMAGE keeps either.
 */
public final class RefusalsTest {
    private static final Checks due = new Checks("RefusalsTest");
    private static final int LEAST = Integer.MIN_VALUE;
    private static final int MOST = Integer.MAX_VALUE;

    private static Scenes.Scene scene;

    public static void main(String[] args) {
        scene = Scenes::some;
        rows();
        sets();
        copies();
        shows();
        says();
        revises();
        revisions();
        rules();
        matches();
        throughs();
        origins();
        remarks();
        remarksOf();
        puts();
        scores();
        leastNeeds();
        fittings();
        surveys();
        judges();
        agains();
        drifts();
        scene = Scenes::full;
        whenFull();
        scene = Scenes::anew;
        whenNew();
        addUp();
        scene = Scenes::some;
        nothingRefused();
        noneIsNoRefusal();
        due.end();
    }

    /** A call on the scene is refused: it answers this, which is counted, and all else is as it was. */
    private static void no(int answer, String what, Scenes.Call call) {
        LineRemarks x = scene.make();
        no(answer, x.fault(), what, call);
    }

    private static void no(int answer, int fault, String what, Scenes.Call call) {
        String name = what + " (" + answer + ")";
        LineRemarks x = scene.make();
        int[] counts = Scenes.refusals(x);
        due.due(name, call.on(x), answer);
        counts[-answer % 10]++;
        LineRemarks y = scene.make();
        due.same(name + ": all else", Scenes.told(x), Scenes.told(y));
        due.same(name + ": counted", java.util.Arrays.toString(Scenes.refusals(x)), java.util.Arrays.toString(counts));
        due.due(name + ": fault", x.fault(), fault);
        LineRemarks z = scene.make();
        call.on(z);
        LineRemarks w = scene.make();
        due.due(name + ": restore", z.restore(), w.restore());
        due.same(name + ": THE IMAGE", Scenes.told(z), Scenes.told(w));
    }

    private static void rows() {
        for (int s : new int[] {LEAST, -1, 8, MOST}) {
            no(-1, "row: no SHELF " + s, x -> x.row(s, 0, 1));
        }
        no(-1, "row: SHELF before size", x -> x.row(8, 0, -1));
        no(-1, "row: SHELF before SORT", x -> x.row(-1, 4, 1));
        no(-1, "row: SHELF before ROOM", x -> x.row(-1, 0, 161));
        no(-4, "row: n -1", x -> x.row(0, 0, -1));
        no(-4, "row: n least", x -> x.row(0, 0, LEAST));
        no(-4, "row: size before SORT", x -> x.row(0, 4, -1));
        no(-4, "row: size before SORT", x -> x.row(0, -1, -1));
        for (int sort : new int[] {LEAST, -1, 4, MOST}) {
            no(-6, "row: SORT " + sort, x -> x.row(0, sort, 1));
            no(-6, "row: SORT " + sort + " before ROOM", x -> x.row(0, sort, 161));
        }
        for (int sort = 0; sort < 4; sort++) {
            int of = sort;
            no(-7, "row: 161 of SORT " + sort, x -> x.row(4, of, 161));
        }
        no(-7, "row: n most", x -> x.row(6, 0, MOST));
    }

    private static void sets() {
        for (int s : new int[] {LEAST, -1, 8, MOST}) {
            no(-1, "set: no SHELF " + s, x -> x.set(s, 0, 1));
        }
        no(-1, "set: SHELF before element", x -> x.set(8, -1, 1));
        no(-2, "set: a REMARK", x -> x.set(4, 0, 1));
        no(-2, "set: a REMARK before element", x -> x.set(4, -1, 1));
        no(-3, "set: NOTHING", x -> x.set(6, 0, 1));
        no(-3, "set: NOTHING before element", x -> x.set(6, -1, 1));
        for (int i : new int[] {LEAST, -1, 3, 160, MOST}) {
            no(-5, "set: no element " + i, x -> x.set(0, i, 1));
        }
        no(-5, "set: none in an empty ROW", x -> x.set(7, 0, 1));
        no(-5, "set: one beyond the ints", x -> x.set(2, 1, 1));
    }

    private static void copies() {
        for (int s : new int[] {LEAST, -1, 8, MOST}) {
            no(-1, "copy: no SHELF p " + s, x -> x.copy(s, 0, 0, 0, 1));
            no(-1, "copy: no SHELF q " + s, x -> x.copy(0, s, 0, 0, 1));
        }
        no(-1, "copy: SHELF q before a REMARK", x -> x.copy(4, 8, 0, 0, 1));
        no(-1, "copy: SHELF p before a REMARK", x -> x.copy(8, 4, 0, 0, 1));
        no(-1, "copy: SHELF q before NOTHING", x -> x.copy(6, 8, 0, 0, 1));
        no(-1, "copy: SHELF p before NOTHING", x -> x.copy(-1, 6, 0, 0, 1));
        no(-1, "copy: SHELF before size", x -> x.copy(0, 8, 0, 0, -1));
        no(-1, "copy: SHELF before element", x -> x.copy(0, 8, -1, 0, 1));
        no(-2, "copy: a REMARK in p", x -> x.copy(4, 0, 0, 0, 1));
        no(-2, "copy: a REMARK in q", x -> x.copy(0, 4, 0, 0, 1));
        no(-2, "copy: a REMARK in both", x -> x.copy(4, 4, 0, 0, 1));
        no(-2, "copy: a REMARK in p before NOTHING in q", x -> x.copy(4, 6, 0, 0, 1));
        no(-2, "copy: a REMARK in q before NOTHING in p", x -> x.copy(6, 4, 0, 0, 1));
        no(-2, "copy: a REMARK before size", x -> x.copy(4, 0, 0, 0, -1));
        no(-2, "copy: a REMARK before element", x -> x.copy(0, 4, -1, 0, 1));
        for (int p = 0; p < 4; p++) {
            for (int q = 0; q < 4; q++) {
                int from = p;
                int to = q;
                if (p != q) {
                    no(-2, "copy: SORTS " + p + " and " + q, x -> x.copy(from, to, 0, 0, 1));
                }
            }
        }
        no(-2, "copy: two SORTS, though none is to come", x -> x.copy(0, 1, 0, 0, 0));
        no(-2, "copy: two SORTS before size", x -> x.copy(0, 1, 0, 0, -1));
        no(-2, "copy: two SORTS before element", x -> x.copy(0, 1, 0, 9, 1));
        copiesOfNothing();
        copiesBeyond();
    }

    private static void copiesOfNothing() {
        for (int s = 0; s < 4; s++) {
            int row = s;
            no(-3, "copy: NOTHING in p, SORT " + s, x -> x.copy(6, row, 0, 0, 1));
            no(-3, "copy: NOTHING in q, SORT " + s, x -> x.copy(row, 6, 0, 0, 1));
        }
        no(-3, "copy: NOTHING in both", x -> x.copy(6, 6, 0, 0, 0));
        no(-3, "copy: NOTHING before size", x -> x.copy(6, 0, 0, 0, -1));
        no(-3, "copy: NOTHING before element", x -> x.copy(0, 6, -1, 0, 1));
    }

    private static void copiesBeyond() {
        no(-4, "copy: n -1", x -> x.copy(0, 0, 0, 0, -1));
        no(-4, "copy: n least", x -> x.copy(0, 0, 0, 0, LEAST));
        no(-4, "copy: size before element i", x -> x.copy(0, 0, -1, 0, -1));
        no(-4, "copy: size before element j", x -> x.copy(0, 0, 0, 4, -1));
        no(-5, "copy: i -1", x -> x.copy(0, 0, -1, 0, 1));
        no(-5, "copy: j -1", x -> x.copy(0, 0, 0, -1, 1));
        no(-5, "copy: i -1, none", x -> x.copy(0, 0, -1, 0, 0));
        no(-5, "copy: j -1, none", x -> x.copy(0, 0, 0, -1, 0));
        no(-5, "copy: i least", x -> x.copy(0, 0, LEAST, 0, 1));
        no(-5, "copy: j least", x -> x.copy(0, 0, 0, LEAST, 1));
        no(-5, "copy: i and n beyond the end", x -> x.copy(0, 0, 1, 0, 3));
        no(-5, "copy: j and n beyond the end", x -> x.copy(0, 0, 0, 1, 3));
        no(-5, "copy: i behind the end, none", x -> x.copy(0, 0, 4, 0, 0));
        no(-5, "copy: j behind the end, none", x -> x.copy(0, 0, 0, 4, 0));
        no(-5, "copy: one more than there are", x -> x.copy(0, 0, 0, 0, 4));
        no(-5, "copy: one of an empty ROW", x -> x.copy(7, 0, 0, 0, 1));
        no(-5, "copy: one to an empty ROW", x -> x.copy(0, 7, 0, 0, 1));
        no(-5, "copy: i and n that would wrap", x -> x.copy(0, 0, 1, 0, MOST));
        no(-5, "copy: j and n that would wrap", x -> x.copy(0, 0, 0, MOST, 1));
        no(-5, "copy: i and n that would wrap far", x -> x.copy(0, 0, MOST, 0, MOST));
        no(-5, "copy: i most, none", x -> x.copy(0, 0, MOST, 0, 0));
    }

    private static void shows() {
        for (int s : new int[] {LEAST, -1, 8, MOST}) {
            no(-1, "show: no SHELF " + s, x -> x.show(s, 0));
            no(-1, "show: NOTHING in no SHELF " + s, x -> x.show(s, -1));
        }
        for (int m : new int[] {LEAST, -2, 4, 16, MOST}) {
            for (int s = 3; s < 8; s++) {
                int shelf = s;
                no(-1, "show: no REMARK " + m + " in " + s, x -> x.show(shelf, m));
            }
        }
    }

    private static void says() {
        for (int s : new int[] {LEAST, -1, 8, MOST}) {
            no(-1, "says: no SHELF " + s, x -> x.says(s, 0));
        }
        for (int kind : new int[] {LEAST, -1, 7, MOST}) {
            no(-1, "says: no KIND " + kind, x -> x.says(4, kind));
            no(-1, "says: KIND before a ROW " + kind, x -> x.says(0, kind));
            no(-1, "says: KIND before NOTHING " + kind, x -> x.says(6, kind));
        }
        for (int s : new int[] {0, 1, 2, 3, 7}) {
            no(-2, "says: a ROW in " + s, x -> x.says(s, 0));
        }
        for (int kind = 1; kind < 7; kind++) {
            int wanted = kind;
            no(-2, "says: a REMARK isn't of KIND " + kind, x -> x.says(4, wanted));
        }
        for (int kind : new int[] {2, 3, 4, 5, 6}) {
            no(-2, "says: a POINT isn't of KIND " + kind, x -> x.says(5, kind));
        }
        for (int kind = 0; kind < 7; kind++) {
            int wanted = kind;
            no(-3, "says: NOTHING, KIND " + kind, x -> x.says(6, wanted));
        }
    }

    private static void revises() {
        for (int s : new int[] {LEAST, -1, 8, MOST}) {
            no(-1, "revise: no SHELF " + s, x -> x.revise(s, -1));
        }
        for (int former : new int[] {LEAST, -2, 5, 16, MOST}) {
            no(-1, "revise: no FORMER " + former, x -> x.revise(0, former));
            no(-1, "revise: FORMER before a REMARK " + former, x -> x.revise(4, former));
            no(-1, "revise: FORMER before NOTHING " + former, x -> x.revise(6, former));
            no(-1, "revise: FORMER before a FAULT " + former, x -> x.revise(1, former));
        }
        no(-2, "revise: a REMARK", x -> x.revise(4, -1));
        no(-2, "revise: another REMARK", x -> x.revise(5, 0));
        no(-3, "revise: NOTHING", x -> x.revise(6, -1));
        no(-6, 2, "revise: a FAULT", x -> x.revise(1, 0));
        no(-6, 0, "revise: a FAULT at 0", x -> x.revise(2, -1));
        no(-6, 0, "revise: a FAULT of longs", x -> x.revise(3, 4));
    }

    private static void revisions() {
        for (int r : new int[] {LEAST, -1, 5, 16, MOST}) {
            no(-1, "lines: no REVISION " + r, x -> x.lines(r));
            no(-1, "letter: no REVISION " + r, x -> x.letter(r, 0, 0));
            no(-1, "letter: REVISION before LINE, k " + r, x -> x.letter(r, -1, 9));
            no(-11, "former: no REVISION " + r, x -> x.former(r));
        }
        for (int i : new int[] {LEAST, -1, 3, 24, MOST}) {
            no(-5, "letter: no LINE " + i, x -> x.letter(0, i, 0));
        }
        no(-5, "letter: no LINE in an empty REVISION", x -> x.letter(4, 0, 0));
        for (int k : new int[] {LEAST, -1, 9, MOST}) {
            no(-5, "letter: k " + k, x -> x.letter(0, 0, k));
        }
    }

    private static void rules() {
        int[] least = {1, 0, 0};
        int[] most = {9, 99, 20};
        for (int what = 0; what < 3; what++) {
            int of = what;
            no(-6, "rule " + what + ": one less", x -> x.rule(of, least[of] - 1));
            no(-6, "rule " + what + ": one more", x -> x.rule(of, most[of] + 1));
            no(-6, "rule " + what + ": least", x -> x.rule(of, LEAST));
            no(-6, "rule " + what + ": most", x -> x.rule(of, MOST));
        }
        for (int what : new int[] {LEAST, -1, 3, MOST}) {
            no(-6, "rule: no such " + what, x -> x.rule(what, 1));
        }
    }

    private static void matches() {
        for (int r : new int[] {LEAST, -1, 5, 16, MOST}) {
            no(-11, "place: no A " + r, x -> x.place(r, 0, 0));
            no(-11, "place: no B " + r, x -> x.place(0, r, 0));
            no(-11, "place: REVISION before LINE " + r, x -> x.place(0, r, 3));
            no(-1, "matched: no A " + r, x -> x.matched(r, 0, 0));
            no(-1, "matched: no B " + r, x -> x.matched(0, r, 1));
            no(-1, "matched: REVISION before what " + r, x -> x.matched(0, r, 2));
        }
        for (int i : new int[] {LEAST, -1, 3, 24, MOST}) {
            no(-15, "place: no LINE " + i, x -> x.place(0, 1, i));
        }
        no(-15, "place: a LINE of B alone", x -> x.place(1, 0, 2));
        no(-15, "place: none in an empty REVISION", x -> x.place(4, 0, 0));
        for (int what : new int[] {LEAST, -1, 2, MOST}) {
            no(-5, "matched: another what " + what, x -> x.matched(0, 1, what));
        }
    }

    private static void throughs() {
        for (int r : new int[] {LEAST, -1, 5, MOST}) {
            no(-11, "through: no A " + r, x -> x.through(r, 0, 0));
            no(-11, "through: no B " + r, x -> x.through(0, r, 0));
            no(-11, "through: REVISION before LINE " + r, x -> x.through(0, r, 3));
        }
        for (int i : new int[] {LEAST, -1, 2, MOST}) {
            no(-15, "through: no LINE " + i, x -> x.through(1, 2, i));
            no(-15, "through: LINE before not behind " + i, x -> x.through(1, 0, i));
        }
        no(-15, "through: none in an empty REVISION", x -> x.through(4, 4, 0));
        no(-16, "through: back", x -> x.through(1, 0, 0));
        no(-16, "through: beside", x -> x.through(1, 3, 0));
        no(-16, "through: to an empty one beside", x -> x.through(2, 4, 0));
    }

    private static void origins() {
        for (int r : new int[] {LEAST, -1, 5, MOST}) {
            no(-1, "origin: no REVISION " + r, x -> x.origin(r, 0, 0));
            no(-1, "origin: REVISION before LINE, what " + r, x -> x.origin(r, -1, 2));
        }
        for (int i : new int[] {LEAST, -1, 2, MOST}) {
            no(-5, "origin: no LINE " + i, x -> x.origin(1, i, 0));
        }
        no(-5, "origin: none in an empty REVISION", x -> x.origin(4, 0, 1));
        for (int what : new int[] {LEAST, -1, 2, MOST}) {
            no(-5, "origin: another what " + what, x -> x.origin(1, 0, what));
        }
    }

    private static void remarks() {
        for (int kind : new int[] {LEAST, -1, 7, MOST}) {
            no(-1, "remark: no KIND " + kind, x -> x.remark(kind, 0, 0, 0, 0, -1));
        }
        for (int r : new int[] {LEAST, -1, 5, MOST}) {
            no(-1, "remark: no REVISION " + r, x -> x.remark(0, 0, r, 0, 0, -1));
        }
        for (int answers : new int[] {LEAST, -2, 4, 16, MOST}) {
            no(-1, "remark: ANSWERS none such " + answers, x -> x.remark(0, 0, 0, 0, 0, answers));
            no(-1, "remark: ANSWERS before LINES " + answers, x -> x.remark(0, 0, 0, -1, 0, answers));
            no(-1, "remark: ANSWERS before a " + answers, x -> x.remark(0, 10, 0, 0, 0, answers));
        }
        no(-1, "remark: KIND before LINES, a", x -> x.remark(7, 10, 0, 0, 3, -1));
        no(-1, "remark: REVISION before LINES, a", x -> x.remark(0, 10, 5, 2, 1, -1));
        for (int i : new int[] {LEAST, -1, 3, 24, MOST}) {
            no(-5, "remark: p and q " + i, x -> x.remark(0, 0, 0, i, i, -1));
            no(-5, "remark: p " + i, x -> x.remark(0, 0, 0, i, 2, -1));
            no(-5, "remark: q " + i, x -> x.remark(0, 0, 0, 0, i, -1));
            no(-5, "remark: LINES before a, " + i, x -> x.remark(0, 10, 0, 0, i, -1));
        }
        no(-5, "remark: q ahead of p by one", x -> x.remark(0, 0, 0, 2, 1, -1));
        no(-5, "remark: q ahead of p, of a POINT too", x -> x.remark(1, 0, 0, 1, 0, -1));
        no(-5, "remark: q ahead of p before a", x -> x.remark(0, -1, 0, 2, 0, -1));
        for (int kind = 0; kind < 7; kind++) {
            int of = kind;
            no(-5, "remark: none in an empty REVISION, KIND " + kind, x -> x.remark(of, 0, 4, 0, 0, -1));
        }
        for (int a : new int[] {LEAST, -1, 10, MOST}) {
            no(-6, "remark: a " + a, x -> x.remark(0, a, 0, 0, 0, -1));
        }
    }

    private static void remarksOf() {
        for (int m : new int[] {LEAST, -1, 4, 16, MOST}) {
            no(-5, "remarkOf: no REMARK " + m, x -> x.remarkOf(m, 0));
            no(-1, "settle: no REMARK " + m, x -> x.settle(m, true));
            no(-1, "settle: no REMARK " + m, x -> x.settle(m, false));
        }
        for (int what : new int[] {LEAST, -1, 10, MOST}) {
            no(-5, "remarkOf: another what " + what, x -> x.remarkOf(0, what));
        }
        no(-5, "remarkOf: neither", x -> x.remarkOf(4, 10));
    }

    private static void puts() {
        for (int m : new int[] {LEAST, -1, 4, MOST}) {
            no(-11, "put: no REMARK " + m, x -> x.put(m, 0, 0));
            no(-11, "put: REMARK before what " + m, x -> x.put(m, 0, 3));
        }
        for (int t : new int[] {LEAST, -1, 5, MOST}) {
            no(-11, "put: no REVISION " + t, x -> x.put(0, t, 0));
            no(-11, "put: REVISION before what " + t, x -> x.put(0, t, -1));
        }
        for (int what : new int[] {LEAST, -1, 3, MOST}) {
            no(-15, "put: another what " + what, x -> x.put(0, 0, what));
            no(-15, "put: what before not behind " + what, x -> x.put(1, 0, what));
        }
        for (int what = 0; what < 3; what++) {
            int of = what;
            no(-16, "put: ahead, what " + what, x -> x.put(1, 0, of));
            no(-16, "put: beside, what " + what, x -> x.put(1, 3, of));
        }
    }

    private static void scores() {
        for (int m : new int[] {LEAST, -1, 4, MOST}) {
            no(-1, "score: no REMARK " + m, x -> x.score(m, 1, 0));
            no(-1, "score: REMARK before place " + m, x -> x.score(m, 1, -1));
        }
        for (int t : new int[] {LEAST, -1, 5, MOST}) {
            no(-1, "score: no REVISION " + t, x -> x.score(0, t, 0));
            no(-1, "score: REVISION before place " + t, x -> x.score(0, t, -1));
        }
        no(-6, "score: where it is made", x -> x.score(0, 0, 0));
        no(-6, "score: where it is made before place", x -> x.score(0, 0, -1));
        no(-6, "score: ahead", x -> x.score(1, 0, 0));
        no(-6, "score: beside before place", x -> x.score(1, 3, 9));
        for (int s : new int[] {LEAST, -1, 1, MOST}) {
            no(-5, "score: no place " + s, x -> x.score(0, 1, s));
        }
        no(-5, "score: no place where the SPAN had more LINES", x -> x.score(2, 2, 0));
        no(-5, "score: no place in an empty REVISION", x -> x.score(0, 4, 0));
    }

    private static void leastNeeds() {
        for (int m : new int[] {LEAST, -1, 4, MOST}) {
            no(-11, "leastNeed: no REMARK " + m, x -> x.leastNeed(m, 1));
            no(-11, "leastNeed: REMARK before not behind " + m, x -> x.leastNeed(m, 5));
        }
        for (int t : new int[] {LEAST, -1, 5, MOST}) {
            no(-11, "leastNeed: no REVISION " + t, x -> x.leastNeed(0, t));
        }
        no(-16, "leastNeed: where it is made", x -> x.leastNeed(0, 0));
        no(-16, "leastNeed: ahead", x -> x.leastNeed(1, 0));
        no(-16, "leastNeed: beside", x -> x.leastNeed(1, 3));
    }

    private static void fittings() {
        for (int m : new int[] {LEAST, -1, 4, MOST}) {
            no(-1, "fitting: no REMARK " + m, x -> x.fitting(m, 0));
        }
        for (int t : new int[] {LEAST, -1, 5, MOST}) {
            no(-1, "fitting: no REVISION " + t, x -> x.fitting(0, t));
        }
        no(-6, "fitting: ahead", x -> x.fitting(1, 0));
        no(-6, "fitting: beside", x -> x.fitting(1, 3));
    }

    private static void surveys() {
        for (int t : new int[] {LEAST, -1, 5, 16, MOST}) {
            no(-11, "inOrder: no REVISION " + t, x -> x.inOrder(t, 0));
            no(-11, "inOrder: REVISION, though k is below 0 " + t, x -> x.inOrder(t, -1));
            no(-1, "who: no REVISION " + t, x -> x.who(t, 0));
            no(-1, "who: REVISION before what " + t, x -> x.who(t, 3));
            no(-1, "covered: no REVISION " + t, x -> x.covered(t));
        }
        for (int what : new int[] {LEAST, -1, 3, 99, MOST}) {
            no(-5, "who: another what " + what, x -> x.who(0, what));
        }
    }

    private static void judges() {
        for (int s : new int[] {LEAST, -1, 8, MOST}) {
            no(-11, "judge: no SHELF " + s, x -> x.judge(s, 0, 0));
        }
        for (int n : new int[] {LEAST, -1, 5, MOST}) {
            no(-11, "judge: no REMARK " + n, x -> x.judge(2, n, 0));
            no(-11, "judge: no REVISION " + n, x -> x.judge(2, 0, n));
            no(-11, "judge: REMARK before a REMARK in the SHELF " + n, x -> x.judge(4, n, 0));
            no(-11, "judge: REVISION before NOTHING " + n, x -> x.judge(6, 0, n));
            no(-11, "judge: REVISION before fewer " + n, x -> x.judge(7, 0, n));
        }
        no(-11, "judge: as many REMARKS as there are", x -> x.judge(2, 4, 0));
        no(-12, "judge: a REMARK", x -> x.judge(4, 0, 0));
        no(-12, "judge: a REMARK before not behind", x -> x.judge(5, 1, 0));
        no(-13, "judge: NOTHING", x -> x.judge(6, 0, 0));
        no(-13, "judge: NOTHING before not behind", x -> x.judge(6, 1, 0));
        no(-15, "judge: none for 1", x -> x.judge(7, 0, 0));
        no(-15, "judge: 1 for 2", x -> x.judge(2, 0, 1));
        no(-15, "judge: 2 for 3", x -> x.judge(3, 0, 2));
        no(-15, "judge: fewer, though those are wrong", x -> x.judge(1, 0, 2));
        no(-16, "judge: ahead", x -> x.judge(0, 1, 0));
        no(-16, "judge: beside", x -> x.judge(0, 1, 3));
    }

    private static void agains() {
        for (int r : new int[] {LEAST, -1, 5, 16, MOST}) {
            no(-1, "again: no r " + r, x -> x.again(r, 0));
            no(-1, "again: no b " + r, x -> x.again(2, r));
        }
        no(-1, "again: neither", x -> x.again(5, 5));
        no(-6, "again: with itself", x -> x.again(1, 1));
        no(-6, "again: r is FORMER of b", x -> x.again(0, 1));
        no(-6, "again: r is further back in the CHAIN of b", x -> x.again(0, 2));
        no(-6, "again: an empty one with itself", x -> x.again(4, 4));
    }

    private static void drifts() {
        for (int n : new int[] {LEAST, -1, 0, 16, MOST}) {
            no(-6, "drift: n " + n, x -> x.drift(n));
        }
        for (int n = 12; n < 16; n++) {
            int more = n;
            no(-7, "drift: 5 and " + n, x -> x.drift(more));
        }
    }

    /** With 16 REVISIONS and 16 REMARKS. */
    private static void whenFull() {
        no(-7, -1, "revise: a 17th", x -> x.revise(0, -1));
        no(-7, -1, "revise: a 17th behind the last", x -> x.revise(0, 15));
        no(-6, 2, "revise: a FAULT before ROOM", x -> x.revise(1, 15));
        no(-1, "revise: FORMER before ROOM", x -> x.revise(0, 16));
        no(-1, "revise: SHELF before ROOM", x -> x.revise(8, -1));
        no(-2, "revise: a REMARK before ROOM", x -> x.revise(3, -1));
        no(-3, "revise: NOTHING before ROOM", x -> x.revise(2, -1));
        no(-7, "remark: a 17th", x -> x.remark(0, 0, 0, 0, 0, -1));
        no(-7, "remark: a 17th, that ANSWERS the last", x -> x.remark(6, 9, 15, 0, 0, 15));
        no(-6, "remark: a before ROOM", x -> x.remark(0, 10, 0, 0, 0, -1));
        no(-6, "remark: a before ROOM", x -> x.remark(0, -1, 0, 0, 0, -1));
        no(-5, "remark: LINES before ROOM", x -> x.remark(0, 0, 0, 0, 1, -1));
        no(-1, "remark: KIND before ROOM", x -> x.remark(7, 0, 0, 0, 0, -1));
        no(-1, "remark: REVISION before ROOM", x -> x.remark(0, 0, 16, 0, 0, -1));
        no(-1, "remark: ANSWERS before ROOM", x -> x.remark(0, 0, 0, 0, 0, 16));
        no(-7, "again: a 17th REVISION, without REMARKS", x -> x.again(2, 1));
        no(-7, "again: a 17th REVISION, of the last", x -> x.again(15, 0));
        no(-6, "again: the CHAIN before ROOM", x -> x.again(0, 15));
        no(-1, "again: r before ROOM", x -> x.again(16, 0));
        no(-1, "again: b before ROOM", x -> x.again(15, 16));
        no(-7, "drift: a 17th", x -> x.drift(1));
        no(-7, "drift: 15 more", x -> x.drift(15));
        no(-6, "drift: n before ROOM", x -> x.drift(16));
        no(-6, "drift: n before ROOM", x -> x.drift(0));
        no(-1, "lines: 16", x -> x.lines(16));
        no(-5, "remarkOf: 16", x -> x.remarkOf(16, 0));
        no(-1, "show: 16", x -> x.show(0, 16));
        no(-11, "put: 16", x -> x.put(16, 0, 0));
        no(-11, "put: on 16", x -> x.put(0, 16, 0));
    }

    /** Without a REVISION, a REMARK, or anything in a SHELF; there is no IMAGE either. */
    private static void whenNew() {
        no(-6, "restore: there is none", x -> x.restore());
        no(-5, "drift: no REVISION", x -> x.drift(1));
        for (int n : new int[] {LEAST, -1, 0, 16, 17, MOST}) {
            no(-5, "drift: no REVISION before n " + n, x -> x.drift(n));
        }
        for (int s = 0; s < 8; s++) {
            int shelf = s;
            no(-3, "set: NOTHING in " + s, x -> x.set(shelf, 0, 0));
            no(-3, "revise: NOTHING in " + s, x -> x.revise(shelf, -1));
            no(-3, "says: NOTHING in " + s, x -> x.says(shelf, 0));
            no(-3, "copy: NOTHING in " + s, x -> x.copy(shelf, 7 - shelf, 0, 0, 0));
        }
        no(-1, "show: no REMARK 0", x -> x.show(0, 0));
        no(-1, "revise: no FORMER 0", x -> x.revise(0, 0));
        no(-1, "lines", x -> x.lines(0));
        no(-1, "letter", x -> x.letter(0, 0, 0));
        no(-11, "former", x -> x.former(0));
        no(-11, "place", x -> x.place(0, 0, 0));
        no(-1, "matched", x -> x.matched(0, 0, 0));
        no(-11, "through", x -> x.through(0, 0, 0));
        no(-1, "origin", x -> x.origin(0, 0, 0));
        no(-1, "remark", x -> x.remark(0, 0, 0, 0, 0, -1));
        no(-5, "remarkOf", x -> x.remarkOf(0, 0));
        no(-1, "settle", x -> x.settle(0, true));
        no(-11, "put", x -> x.put(0, 0, 0));
        no(-1, "score", x -> x.score(0, 0, 0));
        no(-11, "leastNeed", x -> x.leastNeed(0, 0));
        no(-1, "fitting", x -> x.fitting(0, 0));
        no(-11, "inOrder", x -> x.inOrder(0, 0));
        no(-1, "who", x -> x.who(0, 0));
        no(-1, "covered", x -> x.covered(0));
        no(-11, "judge", x -> x.judge(0, 0, 0));
        no(-1, "again", x -> x.again(0, 0));
    }

    /** How many there were: each of them, one by one. */
    private static void addUp() {
        LineRemarks x = new LineRemarks();
        x.row(0, 0, 1);
        Scenes.Call[] calls = {
            y -> y.former(-1), y -> y.says(0, 0), y -> y.revise(1, -1), y -> y.row(0, 0, -1),
            y -> y.set(0, 1, 0), y -> y.restore(), y -> y.row(0, 0, 161),
        };
        for (int k = 0; k < calls.length; k++) {
            for (int times = 1; times <= 30; times++) {
                calls[k].on(x);
                due.due("REFUSALS " + -(k + 1), x.status(11 + k), times);
            }
            for (int other = 0; other < calls.length; other++) {
                due.due("REFUSALS " + -(other + 1), x.status(11 + other), other <= k ? 30 : 0);
            }
        }
    }

    /** A call that refuses nothing answers this, and all is as it was. */
    private static void yes(long answer, String what, Scenes.Call call) {
        LineRemarks x = scene.make();
        due.due(what, call.on(x), answer);
        LineRemarks y = scene.make();
        due.same(what + ": all else", Scenes.told(x), Scenes.told(y));
        due.same(what + ": counted", java.util.Arrays.toString(Scenes.refusals(x)),
            java.util.Arrays.toString(Scenes.refusals(y)));
        due.due(what + ": fault", x.fault(), y.fault());
    }

    /** element, holds, fault, trace and status refuse nothing, whatever they are asked. */
    private static void nothingRefused() {
        for (int n : new int[] {LEAST, -1, 8, MOST}) {
            yes(0, "element of no SHELF " + n, x -> x.element(n, 0));
            yes(-1, "holds of no SHELF " + n, x -> x.holds(n));
        }
        for (int i : new int[] {LEAST, -1, 3, 160, MOST}) {
            yes(0, "element " + i, x -> x.element(0, i));
            yes(-1, "trace " + i, x -> x.trace(i));
        }
        for (int s = 4; s < 8; s++) {
            int shelf = s;
            yes(0, "no element in " + s, x -> x.element(shelf, 0));
        }
        for (int what : new int[] {LEAST, -1, 10, 18, MOST}) {
            yes(-1, "status " + what, x -> x.status(what));
        }
        yes(2, "fault", x -> x.fault());
        yes(-5, "seed that stays", x -> x.seed(-5));
        actsOfNone();
    }

    /** act refuses nothing: it answers 0 and has no TRACE, where there is no such REMARK or MOVE. */
    private static void actsOfNone() {
        for (int n : new int[] {LEAST, -1, 4, MOST}) {
            act("no REMARK " + n, x -> x.act(n, 0, 5));
            act("neither " + n, x -> x.act(n, n, 5));
        }
        for (int move : new int[] {LEAST, -1, 3, MOST}) {
            act("no MOVE " + move, x -> x.act(0, move, 5));
        }
    }

    private static void act(String what, Scenes.Call call) {
        LineRemarks x = scene.make();
        int[] counts = Scenes.refusals(x);
        due.that("act: there was a TRACE", x.trace(0) != -1 && x.status(9) == 3);
        due.due("act: " + what, call.on(x), 0);
        due.due("act: no TRACE, " + what, x.trace(0), -1);
        due.due("act: none ran, " + what, x.status(9), 0);
        due.same("act: nothing refused, " + what, java.util.Arrays.toString(Scenes.refusals(x)),
            java.util.Arrays.toString(counts));
    }

    /** NONE is an answer where a refusal is -11 and so on: it is told apart, and isn't counted. */
    private static void noneIsNoRefusal() {
        yes(-1, "former of the first", x -> x.former(0));
        yes(-1, "place of a LINE that has none", x -> x.place(0, 1, 0));
        yes(-1, "through of a LINE that is gone", x -> x.through(0, 2, 1));
        yes(-1, "put where it is LOST", x -> x.put(0, 2, 0));
        yes(-1, "q where it is LOST", x -> x.put(0, 2, 1));
        yes(-1, "leastNeed without a place", x -> x.leastNeed(2, 2));
        yes(-1, "inOrder: fewer", x -> x.inOrder(0, 2));
        yes(-1, "inOrder: k below 0", x -> x.inOrder(0, -1));
        yes(-1, "inOrder: k least", x -> x.inOrder(0, LEAST));
        yes(-1, "inOrder: k most", x -> x.inOrder(0, MOST));
        yes(-1, "remarkOf: it ANSWERS none", x -> x.remarkOf(0, 5));
        yes(-1, "holds NOTHING", x -> x.holds(6));
    }
}
