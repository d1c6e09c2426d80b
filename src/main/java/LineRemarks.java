import java.util.ArrayList;
import java.util.Arrays;

/** Review remarks that follow their lines through the revisions of a text. */
public final class LineRemarks {
    public static final int NONE = -1;

    private static final int NOBODY = -1;
    private static final int OTHER = -2;
    private static final int NOTHING = -3;
    private static final int BELOW = -4;
    private static final int BEYOND = -5;
    private static final int WRONG = -6;
    private static final int ROOM = -7;
    /** Added to a refusal where NONE is an answer of the call, so that the two stay apart. */
    private static final int APART = -10;

    private static final int SHELVES = 8;
    private static final int MOST_ELEMENTS = 160;
    private static final int SORTS = 4;
    private static final int MOST_REVISIONS = 16;
    private static final int MOST_LINES = 24;
    private static final int MOST_LETTERS = 8;
    private static final int MOST_REMARKS = 16;

    private static final int KINDS = 7;
    private static final int REMARK = 0;
    private static final int POINT = 1;
    private static final int BLOCK = 2;
    private static final int CARET = 3;
    private static final int LOOSE = 4;
    private static final int WALL = 5;
    private static final int TAIL = 6;
    /** By KIND: the KIND above it. */
    private static final int[] ABOVE = {NONE, REMARK, REMARK, POINT, REMARK, BLOCK, CARET};

    private static final int MADE = 0;
    private static final int FOLLOWS = 1;
    private static final int COMES_BACK = 2;
    private static final int LOST = 3;

    /** What who() tells as HEAT where no LINE is in a SPAN. */
    private static final int NO_HEAT = 99;

    private final Shelf[] shelves = new Shelf[SHELVES];
    private final State now = new State();
    private final State image = new State();
    private boolean imageTaken;
    private final int[] refusals = new int[8];
    private int fault = NONE;
    private final Draft draft = new Draft();
    private final Matching matching = new Matching();
    private final Walk walk = new Walk(now);
    private final Survey survey = new Survey(now, walk);
    private final Moves moves = new Moves();

    public LineRemarks() {
        for (int s = 0; s < SHELVES; s++) {
            shelves[s] = new Shelf();
        }
    }

    // ---- SHELVES

    public int row(int s, int sort, int n) {
        Shelf shelf = shelfAt(s);
        if (shelf == null) {
            return refuse(NOBODY);
        }
        if (n < 0) {
            return refuse(BELOW);
        }
        if (sort < 0 || sort >= SORTS) {
            return refuse(WRONG);
        }
        if (n > MOST_ELEMENTS) {
            return refuse(ROOM);
        }
        shelf.holdRow(sort, n);
        return 1;
    }

    public int set(int s, int i, long v) {
        Shelf shelf = shelfAt(s);
        if (shelf == null) {
            return refuse(NOBODY);
        }
        int unfit = unfitAsRow(shelf);
        if (unfit != 0) {
            return refuse(unfit);
        }
        if (!shelf.hasElement(i)) {
            return refuse(BEYOND);
        }
        shelf.store(i, v);
        return 1;
    }

    public int copy(int p, int q, int i, int j, int n) {
        Shelf from = shelfAt(p);
        Shelf to = shelfAt(q);
        if (from == null || to == null) {
            return refuse(NOBODY);
        }
        if (from.hasRemark() || to.hasRemark() || areOfTwoSorts(from, to)) {
            return refuse(OTHER);
        }
        if (!from.hasRow() || !to.hasRow()) {
            return refuse(NOTHING);
        }
        if (n < 0) {
            return refuse(BELOW);
        }
        if (!from.hasStretch(i, n) || !to.hasStretch(j, n)) {
            return refuse(BEYOND);
        }
        to.takeStretch(from, i, j, n);
        return 1;
    }

    public long element(int s, int i) {
        Shelf shelf = shelfAt(s);
        return shelf == null ? 0 : shelf.elementAt(i);
    }

    public int show(int s, int m) {
        Shelf shelf = shelfAt(s);
        if (shelf == null || m != NONE && now.remarkAt(m) == null) {
            return refuse(NOBODY);
        }
        shelf.hold(m);
        return m == NONE ? 0 : 1;
    }

    public int holds(int s) {
        Shelf shelf = shelfAt(s);
        return shelf == null ? NONE : shelf.holding;
    }

    public int says(int s, int kind) {
        Shelf shelf = shelfAt(s);
        if (shelf == null || !isKind(kind)) {
            return refuse(NOBODY);
        }
        if (shelf.hasRow()) {
            return refuse(OTHER);
        }
        Remark remark = now.remarkAt(shelf.holding);
        if (remark == null) {
            return refuse(NOTHING);
        }
        if (!isOf(remark.kind, kind)) {
            return refuse(OTHER);
        }
        return remark.wordAs(kind);
    }

    // ---- REVISIONS

    public int revise(int s, int former) {
        Shelf shelf = shelfAt(s);
        Revision before = now.revisionAt(former);
        if (shelf == null || former != NONE && before == null) {
            return refuse(NOBODY);
        }
        int unfit = unfitAsRow(shelf);
        if (unfit != 0) {
            return refuse(unfit);
        }
        fault = draft.readText(shelf);
        if (fault != NONE) {
            return refuse(WRONG);
        }
        if (now.revisions.size() >= MOST_REVISIONS) {
            return refuse(ROOM);
        }
        return addRevision(before).number;
    }

    public int fault() {
        return fault;
    }

    public int lines(int r) {
        Revision revision = now.revisionAt(r);
        return revision == null ? refuse(NOBODY) : revision.count();
    }

    public int letter(int r, int i, int k) {
        Revision revision = now.revisionAt(r);
        if (revision == null) {
            return refuse(NOBODY);
        }
        if (!revision.hasLine(i) || k < 0 || k > MOST_LETTERS) {
            return refuse(BEYOND);
        }
        return letterOf(revision.lineAt(i), k);
    }

    public int former(int r) {
        Revision revision = now.revisionAt(r);
        if (revision == null) {
            return refuse(NOBODY + APART);
        }
        return revision.former == null ? NONE : revision.former.number;
    }

    public int rule(int what, int v) {
        if (!now.mayBeRule(what, v)) {
            return refuse(WRONG);
        }
        int was = now.ruleOf(what);
        now.changeRule(what, v);
        readySteps();
        return was;
    }

    public int place(int a, int b, int i) {
        Revision from = now.revisionAt(a);
        Revision to = now.revisionAt(b);
        if (from == null || to == null) {
            return refuse(NOBODY + APART);
        }
        if (!from.hasLine(i)) {
            return refuse(BEYOND + APART);
        }
        matching.match(from, to, now.run);
        return matching.placeOf(i);
    }

    public int matched(int a, int b, int what) {
        Revision from = now.revisionAt(a);
        Revision to = now.revisionAt(b);
        if (from == null || to == null) {
            return refuse(NOBODY);
        }
        if (what < 0 || what > 1) {
            return refuse(BEYOND);
        }
        matching.match(from, to, now.run);
        return what == 0 ? matching.pairs : matching.moved;
    }

    public int through(int a, int b, int i) {
        Revision from = now.revisionAt(a);
        Revision to = now.revisionAt(b);
        if (from == null || to == null) {
            return refuse(NOBODY + APART);
        }
        if (!from.hasLine(i)) {
            return refuse(BEYOND + APART);
        }
        if (!walk.layWay(from, to)) {
            return refuse(WRONG + APART);
        }
        return walk.carried(i);
    }

    public int origin(int t, int i, int what) {
        Revision at = now.revisionAt(t);
        if (at == null) {
            return refuse(NOBODY);
        }
        if (!at.hasLine(i) || what < 0 || what > 1) {
            return refuse(BEYOND);
        }
        int line = i;
        int before = at.sourceOf(line);
        for (Revision former = at.former; former != null && before != NONE; former = at.former) {
            at = former;
            line = before;
            before = at.sourceOf(line);
        }
        return what == 0 ? at.number : line;
    }

    // ---- REMARKS

    public int remark(int kind, int a, int r, int p, int q, int answers) {
        Revision on = now.revisionAt(r);
        if (!isKind(kind) || on == null || answers != NONE && now.remarkAt(answers) == null) {
            return refuse(NOBODY);
        }
        if (!on.hasLine(p) || !on.hasLine(q) || q < p) {
            return refuse(BEYOND);
        }
        if (a < 0 || a > 9) {
            return refuse(WRONG);
        }
        int number = now.remarks.size();
        if (number >= MOST_REMARKS) {
            return refuse(ROOM);
        }
        now.remarks.add(new Remark(number, kind, a, on, spanOf(p, q), answers));
        return number;
    }

    public int remarkOf(int m, int what) {
        Remark remark = now.remarkAt(m);
        if (remark == null || what < 0 || what > 9) {
            return refuse(BEYOND);
        }
        switch (what) {
            case 0:
                return remark.kind;
            case 1:
                return remark.a;
            case 2:
                return remark.on.number;
            case 3:
                return firstOf(remark.span);
            case 4:
                return lastOf(remark.span);
            case 5:
                return remark.answers;
            case 6:
                return now.isSettled(m) ? 1 : 0;
            case 7:
                return now.depthOf(m);
            case 8:
                return Integer.bitCount(now.threadOf(m));
            default:
                return now.isOpen(m) ? 1 : 0;
        }
    }

    public int settle(int m, boolean is) {
        if (now.remarkAt(m) == null) {
            return refuse(NOBODY);
        }
        int was = now.isSettled(m) ? 1 : 0;
        now.settled = is ? now.settled | 1 << m : now.settled & ~(1 << m);
        return was;
    }

    public int put(int m, int t, int what) {
        Remark remark = now.remarkAt(m);
        Revision on = now.revisionAt(t);
        if (remark == null || on == null) {
            return refuse(NOBODY + APART);
        }
        if (what < 0 || what > 2) {
            return refuse(BEYOND + APART);
        }
        if (!walk.putOn(remark, remark.kind, on)) {
            return refuse(WRONG + APART);
        }
        switch (what) {
            case 0:
                return firstOf(walk.span);
            case 1:
                return lastOf(walk.span);
            default:
                return walk.how;
        }
    }

    public int score(int m, int t, int s) {
        Remark remark = now.remarkAt(m);
        Revision on = now.revisionAt(t);
        if (remark == null || on == null) {
            return refuse(NOBODY);
        }
        if (on == remark.on || !walk.putOn(remark, remark.kind, on)) {
            return refuse(WRONG);
        }
        if (!walk.isPlace(on, s)) {
            return refuse(BEYOND);
        }
        return walk.scoreAt(on, s);
    }

    public int leastNeed(int m, int t) {
        Remark remark = now.remarkAt(m);
        Revision on = now.revisionAt(t);
        if (remark == null || on == null) {
            return refuse(NOBODY + APART);
        }
        if (on == remark.on || !walk.putOn(remark, remark.kind, on)) {
            return refuse(WRONG + APART);
        }
        walk.weigh(on);
        return walk.keepsMargin() ? walk.greatest : NONE;
    }

    public int fitting(int m, int t) {
        Remark remark = now.remarkAt(m);
        Revision on = now.revisionAt(t);
        if (remark == null || on == null) {
            return refuse(NOBODY);
        }
        if (!on.isBehind(remark.on)) {
            return refuse(WRONG);
        }
        int fit = 0;
        for (int kind = 0; kind < KINDS; kind++) {
            if (walk.putOn(remark, kind, on) && walk.how != LOST) {
                fit |= 1 << kind;
            }
        }
        return fit;
    }

    // ---- WHAT COMES OF IT

    public int inOrder(int t, int k) {
        Revision on = now.revisionAt(t);
        if (on == null) {
            return refuse(NOBODY + APART);
        }
        survey.take(on);
        return survey.inOrderAt(k);
    }

    public int who(int t, int what) {
        Revision on = now.revisionAt(t);
        if (on == null) {
            return refuse(NOBODY);
        }
        if (what < 0 || what > 2) {
            return refuse(BEYOND);
        }
        survey.take(on);
        switch (what) {
            case 0:
                return survey.found;
            case 1:
                return survey.lost;
            default:
                return survey.hottestOf(on.count());
        }
    }

    public int covered(int t) {
        Revision on = now.revisionAt(t);
        if (on == null) {
            return refuse(NOBODY);
        }
        survey.take(on);
        return survey.linesIn(on.count());
    }

    public int judge(int s, int m, int t) {
        Shelf told = shelfAt(s);
        Remark remark = now.remarkAt(m);
        Revision on = now.revisionAt(t);
        if (told == null || remark == null || on == null) {
            return refuse(NOBODY + APART);
        }
        int unfit = unfitAsRow(told);
        if (unfit != 0) {
            return refuse(unfit + APART);
        }
        // How many REVISIONS the WALK has is known only if there is a way: so that comes first.
        if (!walk.layWay(remark.on, on)) {
            return refuse(WRONG + APART);
        }
        if (told.size < walk.wayLength()) {
            return refuse(BEYOND + APART);
        }
        return walk.firstWrong(remark, told);
    }

    public int again(int r, int b) {
        Revision old = now.revisionAt(r);
        Revision former = now.revisionAt(b);
        if (old == null || former == null) {
            return refuse(NOBODY);
        }
        if (former.isBehind(old)) {
            return refuse(WRONG);
        }
        int before = now.remarks.size();
        int many = now.unsettledOn(old);
        if (now.revisions.size() >= MOST_REVISIONS || before + many > MOST_REMARKS) {
            return refuse(ROOM);
        }
        draft.startFrom(old);
        Revision made = addRevision(former);
        for (int m = 0; m < before; m++) {
            Remark remark = now.remarks.get(m);
            if (remark.on == old && !now.isSettled(m)) {
                now.remarks.add(remark.madeOn(made, now.remarks.size()));
            }
        }
        return many;
    }

    public int drift(int n) {
        int many = now.revisions.size();
        if (many == 0) {
            return refuse(BEYOND);
        }
        if (n < 1 || n > 15) {
            return refuse(WRONG);
        }
        if (many + n > MOST_REVISIONS) {
            return refuse(ROOM);
        }
        Revision latest = now.revisions.get(many - 1);
        for (int k = 0; k < n; k++) {
            draft.startFrom(latest);
            driftDraft();
            latest = addRevision(latest);
        }
        return latest.number;
    }

    public int seed(int v) {
        int was = now.seed;
        now.seed = v;
        return was;
    }

    public int act(int m, int move, int x) {
        moves.forget();
        Remark remark = now.remarkAt(m);
        if (remark == null || move < 0 || move >= Moves.MANY) {
            return 0;
        }
        return moves.perform(remark, move, x);
    }

    public int trace(int i) {
        return moves.bodyAt(i);
    }

    public int image() {
        image.becomeLike(now);
        imageTaken = true;
        return now.remarks.size();
    }

    public int restore() {
        if (!imageTaken) {
            return refuse(WRONG);
        }
        now.becomeLike(image);
        readySteps();
        for (int s = 0; s < SHELVES; s++) {
            Shelf shelf = shelfAt(s);
            if (shelf != null && shelf.hasRemark() && now.remarkAt(shelf.holding) == null) {
                shelf.hold(NONE);
            }
        }
        return now.remarks.size();
    }

    public int status(int what) {
        switch (what) {
            case 0:
                return now.revisions.size();
            case 1:
                return now.remarks.size();
            case 2:
                return Integer.bitCount(now.settled);
            case 3:
                return now.openRoots();
            case 4:
            case 5:
            case 6:
                return now.ruleOf(what - 4);
            case 7:
                return now.seed;
            case 8:
                return now.latestCount();
            case 9:
                return moves.ran;
            default:
                return what > 10 && what < 18 ? refusals[what - 10] : NONE;
        }
    }

    // ---- what several calls share

    private int refuse(int answer) {
        int number = -answer % 10;
        if (number > 0 && number < refusals.length) {
            refusals[number]++;
        }
        return answer;
    }

    private Shelf shelfAt(int s) {
        return s >= 0 && s < shelves.length ? shelves[s] : null;
    }

    /** The refusal of a SHELF where a ROW is wanted; 0 if it holds one. */
    private static int unfitAsRow(Shelf shelf) {
        if (shelf.hasRow()) {
            return 0;
        }
        return shelf.hasRemark() ? OTHER : NOTHING;
    }

    private static boolean areOfTwoSorts(Shelf one, Shelf two) {
        return one.hasRow() && two.hasRow() && one.holding != two.holding;
    }

    private static boolean isKind(int kind) {
        return kind >= 0 && kind < KINDS;
    }

    /** Whether a KIND is the one wanted, or under it. */
    private static boolean isOf(int kind, int wanted) {
        int at = kind;
        for (int level = 0; level < KINDS && isKind(at); level++) {
            if (at == wanted) {
                return true;
            }
            at = ABOVE[at];
        }
        return false;
    }

    /** Makes the next REVISION, of the LINES of the draft. */
    private Revision addRevision(Revision former) {
        Revision made = new Revision(now.revisions.size(), former, draft.linesSoFar());
        now.revisions.add(made);
        made.readyStep(matching, now.run);
        return made;
    }

    /** Sees to it that each REVISION has the PLACES of its FORMER's LINES as RUN is now. */
    private void readySteps() {
        for (int r = 0; r < now.revisions.size(); r++) {
            now.revisions.get(r).readyStep(matching, now.run);
        }
    }

    /** One DRIFT of the draft; the order of the DRAWS is that of the document. */
    private void driftDraft() {
        int move = now.draw(4);
        int many = draft.size;
        int at = many == 0 ? 0 : now.draw(many);
        if (move == 0) {
            if (many < MOST_LINES) {
                draft.insert(at, 'a' + now.draw(26));
            }
            return;
        }
        if (many == 0) {
            return;
        }
        long line = draft.remove(at);
        if (move == 2) {
            draft.insert(0, line);
        } else if (move == 3) {
            draft.insert(at, 'z');
        }
    }

    // ---- LINES: the k-th letter is byte k of a long, so 0 is no LINE at all, and alike is ==

    private static int letterOf(long line, int k) {
        return k < 0 || k >= MOST_LETTERS ? 0 : (int) (line >>> (8 * k)) & 255;
    }

    // ---- SPANS: both LINES in one int, NONE if LOST

    private static int spanOf(int p, int q) {
        return p * 32 + q;
    }

    private static int firstOf(int span) {
        return span == NONE ? NONE : span >> 5;
    }

    private static int lastOf(int span) {
        return span == NONE ? NONE : span & 31;
    }

    private static int lengthOf(int span) {
        return lastOf(span) - firstOf(span) + 1;
    }

    /** A SHELF, with room of its own for a ROW. */
    private static final class Shelf {
        private static final int FIRST_SORT = 100;

        /** NONE: NOTHING; a REMARK's number; or FIRST_SORT and the SORT of a ROW. */
        int holding = NONE;
        int size;
        private final long[] elements = new long[MOST_ELEMENTS];

        boolean hasRow() {
            return holding >= FIRST_SORT;
        }

        boolean hasRemark() {
            return holding != NONE && holding < FIRST_SORT;
        }

        /** Holds a REMARK, or NOTHING (NONE). */
        void hold(int m) {
            holding = m;
        }

        void holdRow(int sort, int n) {
            holding = FIRST_SORT + sort;
            size = n;
            Arrays.fill(elements, 0L);
        }

        boolean hasElement(int i) {
            return hasRow() && i >= 0 && i < size && i < elements.length;
        }

        boolean hasStretch(int from, int n) {
            return hasRow() && from >= 0 && n >= 0 && n <= size - from;
        }

        void store(int i, long v) {
            if (hasElement(i)) {
                elements[i] = lowestBits(v);
            }
        }

        private long lowestBits(long v) {
            switch (holding - FIRST_SORT) {
                case 0:
                    return (byte) v;
                case 1:
                    return (short) v;
                case 2:
                    return (int) v;
                default:
                    return v;
            }
        }

        long elementAt(int i) {
            return hasElement(i) ? elements[i] : 0;
        }

        /** The element as all that is read from a ROW: of longs the lowest 32 bits. */
        int numberAt(int i) {
            return (int) elementAt(i);
        }

        void takeStretch(Shelf from, int i, int j, int n) {
            if (from.hasStretch(i, n) && hasStretch(j, n)) {
                System.arraycopy(from.elements, i, elements, j, n);
            }
        }
    }

    /** The LINES of a REVISION that is about to be made. */
    private static final class Draft {
        private final long[] lines = new long[MOST_LINES];
        int size;

        void startFrom(Revision revision) {
            size = 0;
            for (int i = 0; i < revision.count(); i++) {
                insert(size, revision.lineAt(i));
            }
        }

        void insert(int at, long line) {
            if (size >= lines.length || at < 0 || at > size) {
                return;
            }
            for (int i = size; i > at; i--) {
                lines[i] = lines[i - 1];
            }
            lines[at] = line;
            size++;
        }

        /** Takes a LINE out: that LINE. */
        long remove(int at) {
            if (at < 0 || at >= size || size > lines.length) {
                return 0;
            }
            long line = lines[at];
            size--;
            for (int i = at; i < size; i++) {
                lines[i] = lines[i + 1];
            }
            return line;
        }

        /** Reads the TEXT of a ROW: its FAULT, or NONE. */
        int readText(Shelf row) {
            size = 0;
            long line = 0;
            int letters = 0;
            for (int at = 0; at < row.size; at++) {
                int sign = row.numberAt(at);
                if (sign == '/') {
                    if (letters == 0 || size >= MOST_LINES - 1) {
                        return at;
                    }
                    insert(size, line);
                    line = 0;
                    letters = 0;
                } else if (sign < 'a' || sign > 'z' || letters >= MOST_LETTERS) {
                    return at;
                } else {
                    line |= (long) sign << (8 * letters);
                    letters++;
                }
            }
            if (letters > 0) {
                insert(size, line);
                return NONE;
            }
            return row.size == 0 ? NONE : row.size;
        }

        long[] linesSoFar() {
            return Arrays.copyOf(lines, size < 0 ? 0 : size);
        }
    }

    /** A REVISION; it never changes, but for the RUN for which its step stands ready. */
    private static final class Revision {
        final int number;
        final Revision former;
        private final long[] lines;
        /** By LINE of the FORMER: its PLACE here. */
        private final int[] places;
        /** The RUN for which the places stand; 0: for none yet. */
        private int readyFor;

        Revision(int number, Revision former, long[] lines) {
            this.number = number;
            this.former = former;
            this.lines = lines;
            this.places = new int[former == null ? 0 : former.lines.length];
        }

        int count() {
            return lines.length;
        }

        boolean hasLine(int i) {
            return i >= 0 && i < lines.length;
        }

        /** The LINE; 0 if there is none. */
        long lineAt(int i) {
            return i >= 0 && i < lines.length ? lines[i] : 0;
        }

        boolean isBehind(Revision other) {
            for (Revision at = this; at != null; at = at.former) {
                if (at == other) {
                    return true;
                }
            }
            return false;
        }

        void readyStep(Matching matching, int run) {
            if (former == null || readyFor == run) {
                return;
            }
            matching.match(former, this, run);
            for (int i = 0; i < places.length; i++) {
                places[i] = matching.placeOf(i);
            }
            readyFor = run;
        }

        /** PLACE here of a LINE of the FORMER; NONE. */
        int placeOf(int i) {
            return i >= 0 && i < places.length ? places[i] : NONE;
        }

        /** The LINE of the FORMER that has a LINE here as PLACE; NONE. */
        int sourceOf(int line) {
            for (int i = 0; i < places.length; i++) {
                if (places[i] == line) {
                    return i;
                }
            }
            return NONE;
        }

        /** How many of the FORMER's LINES p to q have a PLACE here. */
        int placedOf(int p, int q) {
            int placed = 0;
            for (int i = p; i <= q; i++) {
                if (placeOf(i) != NONE) {
                    placed++;
                }
            }
            return placed;
        }

        /** From the least to the greatest PLACE of the FORMER's LINES p to q; NONE if none has one. */
        int spreadOf(int p, int q) {
            int least = NONE;
            int greatest = NONE;
            for (int i = p; i <= q; i++) {
                int place = placeOf(i);
                if (place != NONE) {
                    least = least == NONE ? place : Math.min(least, place);
                    greatest = Math.max(greatest, place);
                }
            }
            return least == NONE ? NONE : spanOf(least, greatest);
        }
    }

    /** PAIRS and MOVED LINES of two REVISIONS: the latest two that were matched. */
    private static final class Matching {
        private static final int WIDTH = MOST_LINES + 1;

        /** L(i, j) stands at i * WIDTH + j. */
        private final int[] common = new int[WIDTH * WIDTH];
        /** By LINE of A: its PLACE in B. */
        private final int[] places = new int[MOST_LINES];
        /** By LINE of B: whether it is in a PAIR, or MOVED. */
        private final boolean[] taken = new boolean[MOST_LINES];
        int pairs;
        int moved;

        int placeOf(int i) {
            return i >= 0 && i < places.length ? places[i] : NONE;
        }

        void match(Revision a, Revision b, int run) {
            Arrays.fill(places, NONE);
            for (int j = 0; j < MOST_LINES; j++) {
                taken[j] = false;
            }
            pairs = 0;
            moved = 0;
            countCommon(a, b);
            pairUp(a, b);
            // Each turn but the last moves a LINE at least.
            for (int turn = 0; turn < MOST_LINES; turn++) {
                if (!moveLongest(a, b, run)) {
                    break;
                }
            }
        }

        private void countCommon(Revision a, Revision b) {
            Arrays.fill(common, 0);
            for (int i = a.count() - 1; i >= 0; i--) {
                for (int j = b.count() - 1; j >= 0; j--) {
                    int here = i * WIDTH + j;
                    if (here + WIDTH + 1 >= common.length) {
                        continue;
                    }
                    common[here] = a.lineAt(i) == b.lineAt(j)
                        ? common[here + WIDTH + 1] + 1
                        : Math.max(common[here + WIDTH], common[here + 1]);
                }
            }
        }

        private int commonFrom(int i, int j) {
            int at = i * WIDTH + j;
            return at >= 0 && at < common.length ? common[at] : 0;
        }

        private void pairUp(Revision a, Revision b) {
            int i = 0;
            int j = 0;
            while (i < a.count() && j < b.count()) {
                if (a.lineAt(i) == b.lineAt(j)) {
                    take(i, j);
                    pairs++;
                    i++;
                    j++;
                } else if (commonFrom(i + 1, j) >= commonFrom(i, j + 1)) {
                    i++;
                } else {
                    j++;
                }
            }
        }

        private void take(int i, int j) {
            if (i >= 0 && i < places.length && j >= 0 && j < taken.length) {
                places[i] = j;
                taken[j] = true;
            }
        }

        /** Moves the longest run that is left, if it has RUN LINES at least. */
        private boolean moveLongest(Revision a, Revision b, int run) {
            int longest = 0;
            int from = 0;
            int to = 0;
            for (int i = 0; i < a.count(); i++) {
                for (int j = 0; j < b.count(); j++) {
                    int n = runAt(a, b, i, j);
                    if (n > longest) {
                        longest = n;
                        from = i;
                        to = j;
                    }
                }
            }
            if (longest == 0 || longest < run) {
                return false;
            }
            for (int k = 0; k < longest; k++) {
                take(from + k, to + k);
            }
            moved += longest;
            return true;
        }

        /** How many LINES from i and j on are alike one by one, and not taken yet. */
        private int runAt(Revision a, Revision b, int i, int j) {
            int n = 0;
            while (i + n < a.count() && j + n < b.count()
                    && a.lineAt(i + n) == b.lineAt(j + n)
                    && isFree(i + n, j + n)) {
                n++;
            }
            return n;
        }

        private boolean isFree(int i, int j) {
            return i >= 0 && i < places.length && places[i] == NONE
                && j >= 0 && j < taken.length && !taken[j];
        }
    }

    /** A REMARK as it is made; it never changes. Whether it is SETTLED stands in the State. */
    private static final class Remark {
        final int number;
        final int kind;
        final int a;
        final Revision on;
        final int span;
        final int answers;

        Remark(int number, int kind, int a, Revision on, int span, int answers) {
            this.number = number;
            this.kind = kind;
            this.a = a;
            this.on = on;
            this.span = span;
            this.answers = answers;
        }

        Remark madeOn(Revision other, int otherNumber) {
            return new Remark(otherNumber, kind, a, other, span, answers);
        }

        /** What it says, taken for one of a KIND. */
        int wordAs(int taken) {
            switch (taken) {
                case POINT:
                case CARET:
                    return a;
                case BLOCK:
                case WALL:
                    return lengthOf(span);
                case LOOSE:
                    return lastOf(span);
                case TAIL:
                    return on.number;
                default:
                    return firstOf(span);
            }
        }

        /** The SPAN on b to which a SPAN p to q on b's FORMER comes, by a KIND; NONE: it is LOST. */
        int followed(int by, int p, int q, Revision b) {
            switch (by) {
                case POINT:
                    return b.spreadOf(p, p);
                case BLOCK:
                    return whole(p, q, b, 0);
                case CARET:
                    return nearest(p, b);
                case LOOSE:
                    return 10 * b.placedOf(p, q) < a * (q - p + 1) ? NONE : b.spreadOf(p, q);
                case WALL:
                    return whole(p, q, b, a);
                case TAIL:
                    return toTheEnd(nearest(p, b), b);
                default:
                    return b.spreadOf(p, q);
            }
        }

        private static int whole(int p, int q, Revision b, int longer) {
            int many = q - p + 1;
            if (b.placedOf(p, q) < many) {
                return NONE;
            }
            int spread = b.spreadOf(p, q);
            return lengthOf(spread) > many + longer ? NONE : spread;
        }

        private static int nearest(int p, Revision b) {
            for (int i = p; i >= 0; i--) {
                int place = b.placeOf(i);
                if (place != NONE) {
                    return spanOf(place, place);
                }
            }
            return NONE;
        }

        private static int toTheEnd(int span, Revision b) {
            return span == NONE ? NONE : spanOf(firstOf(span), b.count() - 1);
        }
    }

    /** All that THE IMAGE keeps: REVISIONS, REMARKS, the rules and SEED. */
    private static final class State {
        final ArrayList<Revision> revisions = new ArrayList<>();
        final ArrayList<Remark> remarks = new ArrayList<>();
        /** Bits: the REMARKS that are SETTLED. */
        int settled;
        int run = 2;
        int need = 6;
        int margin = 1;
        int seed = 1;

        void becomeLike(State other) {
            revisions.clear();
            for (int r = 0; r < other.revisions.size(); r++) {
                revisions.add(other.revisions.get(r));
            }
            remarks.clear();
            for (int m = 0; m < other.remarks.size(); m++) {
                remarks.add(other.remarks.get(m));
            }
            settled = other.settled;
            run = other.run;
            need = other.need;
            margin = other.margin;
            seed = other.seed;
        }

        Revision revisionAt(int r) {
            return r >= 0 && r < revisions.size() ? revisions.get(r) : null;
        }

        Remark remarkAt(int m) {
            return m >= 0 && m < remarks.size() ? remarks.get(m) : null;
        }

        int latestCount() {
            Revision latest = revisionAt(revisions.size() - 1);
            return latest == null ? 0 : latest.count();
        }

        boolean mayBeRule(int what, int v) {
            switch (what) {
                case 0:
                    return v >= 1 && v <= 9;
                case 1:
                    return v >= 0 && v <= 99;
                case 2:
                    return v >= 0 && v <= 20;
                default:
                    return false;
            }
        }

        int ruleOf(int what) {
            switch (what) {
                case 0:
                    return run;
                case 1:
                    return need;
                default:
                    return margin;
            }
        }

        void changeRule(int what, int v) {
            switch (what) {
                case 0:
                    run = v;
                    break;
                case 1:
                    need = v;
                    break;
                default:
                    margin = v;
                    break;
            }
        }

        /** A DRAW below n. */
        int draw(int n) {
            seed = seed * 1103515245 + 12345;
            return n <= 0 ? 0 : (seed >>> 16) % n;
        }

        boolean isSettled(int m) {
            return (settled >> m & 1) == 1;
        }

        int unsettledOn(Revision revision) {
            int many = 0;
            for (int m = 0; m < remarks.size(); m++) {
                if (remarks.get(m).on == revision && !isSettled(m)) {
                    many++;
                }
            }
            return many;
        }

        int depthOf(int m) {
            int depth = 0;
            Remark at = remarkAt(m);
            while (at != null && at.answers != NONE && depth < MOST_REMARKS) {
                depth++;
                at = remarkAt(at.answers);
            }
            return depth;
        }

        /** Bits: THREAD. One loop will do, since each ANSWERS an earlier one. */
        int threadOf(int m) {
            int thread = 0;
            for (int i = 0; i < remarks.size(); i++) {
                int answered = remarks.get(i).answers;
                if (answered != NONE && (answered == m || (thread >> answered & 1) == 1)) {
                    thread |= 1 << i;
                }
            }
            return thread;
        }

        boolean isOpen(int m) {
            return ((threadOf(m) | 1 << m) & ~settled) != 0;
        }

        /** How many are OPEN and ANSWER none. */
        int openRoots() {
            int many = 0;
            for (int m = 0; m < remarks.size(); m++) {
                if (remarks.get(m).answers == NONE && isOpen(m)) {
                    many++;
                }
            }
            return many;
        }
    }

    /** The way from one REVISION to one behind it, and a REMARK that is PUT on each of these. */
    private static final class Walk {
        private final State rules;
        /** From the last REVISION of the way back to its first. */
        private final ArrayList<Revision> back = new ArrayList<>();
        /** The SPAN where the REMARK has come to; NONE: it is LOST there. */
        int span = NONE;
        int how = LOST;
        /** CONTEXT: the LINE ahead, those of the SPAN, the LINE behind; 0: there is none. */
        private final long[] context = new long[MOST_LINES + 2];
        /** How many LINES the SPAN of the CONTEXT has. */
        private int contextSpan;
        /** The greatest SCORE, the first place that has it, the greatest of the others; or NONE. */
        int greatest = NONE;
        private int best = NONE;
        private int rival = NONE;

        Walk(State rules) {
            this.rules = rules;
        }

        /** Lays the way; false: the last isn't behind the first. */
        boolean layWay(Revision first, Revision last) {
            back.clear();
            for (Revision at = last; at != null; at = at.former) {
                back.add(at);
                if (at == first) {
                    return true;
                }
            }
            return false;
        }

        int wayLength() {
            return back.size();
        }

        /** The PLACE to which a LINE of the way's first REVISION comes on its last. */
        int carried(int line) {
            int at = line;
            for (int k = back.size() - 2; k >= 0; k--) {
                at = back.get(k).placeOf(at);
            }
            return at;
        }

        /** PUTS a REMARK, as one of a KIND, on t; false: t isn't behind the one on which it is made. */
        boolean putOn(Remark remark, int kind, Revision t) {
            if (!layWay(remark.on, t)) {
                return false;
            }
            begin(remark);
            Revision on = remark.on;
            for (int k = back.size() - 2; k >= 0; k--) {
                Revision next = back.get(k);
                step(remark, kind, on, next);
                on = next;
            }
            return true;
        }

        /** The first place told wrong of a REMARK along the way that is laid; NONE. */
        int firstWrong(Remark remark, Shelf told) {
            begin(remark);
            Revision on = remark.on;
            for (int k = 0; k < back.size(); k++) {
                if (k > 0) {
                    Revision next = back.get(back.size() - 1 - k);
                    step(remark, remark.kind, on, next);
                    on = next;
                }
                if (told.numberAt(k) != firstOf(span)) {
                    return k;
                }
            }
            return NONE;
        }

        private void begin(Remark remark) {
            span = remark.span;
            how = MADE;
        }

        private void step(Remark remark, int kind, Revision on, Revision next) {
            if (span != NONE) {
                keepContext(on);
                span = remark.followed(kind, firstOf(span), lastOf(span), next);
            }
            if (span != NONE) {
                how = FOLLOWS;
                return;
            }
            weigh(next);
            if (keepsMargin() && greatest >= rules.need) {
                span = spanOf(best, best + contextSpan - 1);
                how = COMES_BACK;
            } else {
                how = LOST;
            }
        }

        private void keepContext(Revision on) {
            contextSpan = lengthOf(span);
            int ahead = firstOf(span) - 1;
            for (int k = 0; k < contextSpan + 2 && k < context.length; k++) {
                context[k] = on.lineAt(ahead + k);
            }
        }

        boolean isPlace(Revision b, int s) {
            return s >= 0 && s <= b.count() - contextSpan;
        }

        /** SCORE of a place. No LINE is 0 on both sides, so that neither is there counts as alike. */
        int scoreAt(Revision b, int s) {
            int score = 0;
            for (int k = 0; k < contextSpan + 2 && k < context.length; k++) {
                if (context[k] == b.lineAt(s - 1 + k)) {
                    score += k == 0 || k == contextSpan + 1 ? 2 : 3;
                }
            }
            return score;
        }

        /** SCORES of all places on b. */
        void weigh(Revision b) {
            greatest = NONE;
            best = NONE;
            rival = NONE;
            for (int s = 0; s <= b.count() - contextSpan; s++) {
                int score = scoreAt(b, s);
                if (score > greatest) {
                    rival = greatest;
                    greatest = score;
                    best = s;
                } else {
                    rival = Math.max(rival, score);
                }
            }
        }

        /** Whether there is a place, and each other one's SCORE is less by MARGIN at least. */
        boolean keepsMargin() {
            return best != NONE && (rival == NONE || greatest - rival >= rules.margin);
        }
    }

    /** All REMARKS as they are PUT on one REVISION. */
    private static final class Survey {
        private final State now;
        private final Walk walk;
        /** By REMARK: its SPAN; NONE: it isn't PUT there, or is LOST. */
        private final int[] spans = new int[MOST_REMARKS];
        /** Bits: REMARKS that are PUT there and aren't LOST; that are LOST. */
        int found;
        int lost;

        Survey(State now, Walk walk) {
            this.now = now;
            this.walk = walk;
        }

        void take(Revision t) {
            Arrays.fill(spans, NONE);
            found = 0;
            lost = 0;
            for (int m = 0; m < now.remarks.size() && m < spans.length; m++) {
                Remark remark = now.remarks.get(m);
                if (!walk.putOn(remark, remark.kind, t)) {
                    continue;
                }
                spans[m] = walk.span;
                if (walk.span == NONE) {
                    lost |= 1 << m;
                } else {
                    found |= 1 << m;
                }
            }
        }

        int inOrderAt(int k) {
            for (int m = 0; m < spans.length; m++) {
                if (spans[m] != NONE && manyAhead(m) == k) {
                    return m;
                }
            }
            return NONE;
        }

        /** How many stand ahead of one in ORDER. */
        private int manyAhead(int m) {
            if (m < 0 || m >= spans.length) {
                return NONE;
            }
            int p = firstOf(spans[m]);
            int many = 0;
            for (int i = 0; i < spans.length; i++) {
                int other = firstOf(spans[i]);
                if (other != NONE && (other < p || other == p && i < m)) {
                    many++;
                }
            }
            return many;
        }

        /** How many SPANS a LINE is in. */
        private int heatOf(int line) {
            int heat = 0;
            for (int m = 0; m < spans.length; m++) {
                if (spans[m] != NONE && firstOf(spans[m]) <= line && line <= lastOf(spans[m])) {
                    heat++;
                }
            }
            return heat;
        }

        int hottestOf(int lines) {
            int most = 0;
            int hottest = NO_HEAT;
            for (int line = 0; line < lines; line++) {
                int heat = heatOf(line);
                if (heat > most) {
                    most = heat;
                    hottest = line;
                }
            }
            return hottest;
        }

        int linesIn(int lines) {
            int bits = 0;
            for (int line = 0; line < lines; line++) {
                if (heatOf(line) > 0) {
                    bits |= 1 << line;
                }
            }
            return bits;
        }
    }

    /** MOVES of REMARKS, and THE TRACE of the latest act(). */
    private static final class Moves {
        static final int MANY = 3;
        private static final int POINTS = 0;
        private static final int WEIGHS = 1;
        private static final int CLINGS = 2;
        /** By KIND: the bodies of points, weighs, clings; 0: that of the next KIND above. */
        private static final int[] BODIES = {
            10, 11, 12,
            20, 0, 0,
            0, 30, 0,
            40, 0, 0,
            51, 0, 50,
            0, 0, 60,
            70, 71, 0,
        };
        private static final int KEPT = 20;
        /** Far more bodies than the tree of KINDS lets stand open at once. */
        private static final int DEEPEST = 40;

        private final int[] trace = new int[KEPT];
        /** How many bodies ran, kept or not. */
        int ran;
        private int kind;
        private int m;
        private int k;

        void forget() {
            ran = 0;
        }

        int bodyAt(int i) {
            return i >= 0 && i < ran && i < trace.length ? trace[i] : NONE;
        }

        int perform(Remark remark, int move, int x) {
            kind = remark.kind;
            m = remark.number;
            k = remark.a;
            return run(move, kind, x, 0);
        }

        /** Runs the body of a KIND, or of the next KIND above that has one. */
        private int run(int move, int from, int x, int depth) {
            int body = bodyOf(move, from);
            if (body == 0 || depth > DEEPEST) {
                return 0;
            }
            began(body);
            return answerOf(body, x, depth + 1);
        }

        private int answerOf(int body, int x, int next) {
            // The tens of a body tell its KIND.
            int up = aboveOf(body / 10 - 1);
            switch (body) {
                case 10:
                    return x + m;
                case 11:
                    return run(POINTS, kind, x, next) * 2;
                case 12:
                    return run(WEIGHS, kind, x, next) ^ run(POINTS, kind, x - k, next);
                case 20:
                    return run(POINTS, up, x, next) + k;
                case 30:
                    return run(WEIGHS, up, x, next) * 3;
                case 40:
                    return run(POINTS, up, x + 1, next);
                case 50:
                    return -run(CLINGS, up, x, next);
                case 51:
                    return run(POINTS, up, x, next) - m;
                case 60:
                    return run(CLINGS, up, x, next) ^ 5;
                case 70:
                    return run(POINTS, up, x, next) * 2;
                default:
                    return run(WEIGHS, up, x - k, next);
            }
        }

        private static int aboveOf(int kind) {
            return isKind(kind) ? ABOVE[kind] : NONE;
        }

        private static int bodyOf(int move, int from) {
            int at = from;
            for (int level = 0; level < KINDS && isKind(at); level++) {
                int place = at * MANY + move;
                if (place >= 0 && place < BODIES.length && BODIES[place] != 0) {
                    return BODIES[place];
                }
                at = ABOVE[at];
            }
            return 0;
        }

        private void began(int body) {
            if (ran >= 0 && ran < trace.length) {
                trace[ran] = body;
            }
            ran++;
        }
    }
}
