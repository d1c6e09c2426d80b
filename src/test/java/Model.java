import java.util.ArrayList;
import java.util.Arrays;
import java.util.HashMap;
import java.util.List;
import java.util.Map;

/**
 * The document once more, as plainly as can be and with nothing kept ready: lists of texts,
 * everything worked out anew at each call. ModelTest holds LineRemarks against it.
 */
final class Model {
    record Rev(List<String> lines, int former) { }

    record Rem(int kind, int a, int rev, int p, int q, int answers, boolean settled) { }

    /** SPAN and how; p is NONE if LOST. */
    record Put(int p, int q, int how) { }

    record Context(String ahead, List<String> span, String behind) { }

    static final int NONE = -1;
    List<Rev> revs = new ArrayList<>();
    List<Rem> rems = new ArrayList<>();
    int[] rules = {2, 6, 1};
    int seed = 1;
    List<Rev> imageRevs;
    List<Rem> imageRems;
    int[] imageRules;
    int imageSeed;
    /** null, an Integer (a REMARK's number), or byte[], short[], int[], long[]. */
    Object[] shelves = new Object[8];
    int[] refusals = new int[18];
    int fault = NONE;
    List<Integer> trace = new ArrayList<>();

    int no(int answer) {
        refusals[10 + Math.abs(answer) % 10]++;
        return answer;
    }

    boolean shelf(int s) {
        return 0 <= s && s < 8;
    }

    boolean rev(int r) {
        return 0 <= r && r < revs.size();
    }

    boolean rem(int m) {
        return 0 <= m && m < rems.size();
    }

    boolean line(int r, int i) {
        return 0 <= i && i < revs.get(r).lines.size();
    }

    static boolean isRow(Object o) {
        return o != null && !(o instanceof Integer);
    }

    static int size(Object row) {
        return java.lang.reflect.Array.getLength(row);
    }

    static long at(Object row, int i) {
        return java.lang.reflect.Array.getLong(row, i);
    }

    static void putAt(Object row, int i, long v) {
        if (row instanceof byte[] b) {
            b[i] = (byte) v;
        } else if (row instanceof short[] h) {
            h[i] = (short) v;
        } else if (row instanceof int[] n) {
            n[i] = (int) v;
        } else if (row instanceof long[] l) {
            l[i] = v;
        }
    }

    int row(int s, int sort, int n) {
        if (!shelf(s)) {
            return no(-1);
        } else if (n < 0) {
            return no(-4);
        } else if (sort < 0 || sort > 3) {
            return no(-6);
        } else if (n > 160) {
            return no(-7);
        }
        Object[] rows = {new byte[n], new short[n], new int[n], new long[n]};
        shelves[s] = rows[sort];
        return 1;
    }

    int set(int s, int i, long v) {
        if (!shelf(s)) {
            return no(-1);
        } else if (shelves[s] instanceof Integer) {
            return no(-2);
        } else if (shelves[s] == null) {
            return no(-3);
        } else if (i < 0 || i >= size(shelves[s])) {
            return no(-5);
        }
        putAt(shelves[s], i, v);
        return 1;
    }

    int copy(int p, int q, int i, int j, int n) {
        if (!shelf(p) || !shelf(q)) {
            return no(-1);
        }
        Object a = shelves[p];
        Object b = shelves[q];
        if (a instanceof Integer || b instanceof Integer || a != null && b != null && a.getClass() != b.getClass()) {
            return no(-2);
        } else if (a == null || b == null) {
            return no(-3);
        } else if (n < 0) {
            return no(-4);
        } else if (i < 0 || j < 0 || (long) i + n > size(a) || (long) j + n > size(b)) {
            return no(-5);
        }
        long[] taken = new long[n];
        for (int k = 0; k < n; k++) {
            taken[k] = at(a, i + k);
        }
        for (int k = 0; k < n; k++) {
            putAt(b, j + k, taken[k]);
        }
        return 1;
    }

    long element(int s, int i) {
        return shelf(s) && isRow(shelves[s]) && i >= 0 && i < size(shelves[s]) ? at(shelves[s], i) : 0;
    }

    int show(int s, int m) {
        if (!shelf(s) || m != NONE && !rem(m)) {
            return no(-1);
        }
        shelves[s] = m == NONE ? null : (Integer) m;
        return m == NONE ? 0 : 1;
    }

    int holds(int s) {
        if (!shelf(s) || shelves[s] == null) {
            return NONE;
        }
        if (shelves[s] instanceof Integer m) {
            return m;
        }
        return 100 + List.of("byte[]", "short[]", "int[]", "long[]").indexOf(shelves[s].getClass().getSimpleName());
    }

    static int above(int kind) {
        return switch (kind) {
            case 1, 2, 4 -> 0;
            case 3 -> 1;
            case 5 -> 2;
            case 6 -> 3;
            default -> NONE;
        };
    }

    static boolean under(int kind, int wanted) {
        return kind != NONE && (kind == wanted || under(above(kind), wanted));
    }

    int says(int s, int kind) {
        if (!shelf(s) || kind < 0 || kind > 6) {
            return no(-1);
        }
        if (isRow(shelves[s])) {
            return no(-2);
        }
        if (shelves[s] == null) {
            return no(-3);
        }
        Rem m = rems.get((Integer) shelves[s]);
        if (!under(m.kind, kind)) {
            return no(-2);
        }
        return new int[] {m.p, m.a, m.q - m.p + 1, m.a, m.q, m.q - m.p + 1, m.rev}[kind];
    }

    int revise(int s, int former) {
        if (!shelf(s) || former != NONE && !rev(former)) {
            return no(-1);
        } else if (shelves[s] instanceof Integer) {
            return no(-2);
        } else if (shelves[s] == null) {
            return no(-3);
        }
        StringBuilder all = new StringBuilder();
        for (int i = 0; i < size(shelves[s]); i++) {
            int c = (int) at(shelves[s], i);
            all.append(c == '/' || c >= 'a' && c <= 'z' ? (char) c : '?');
        }
        fault = faultOf(all.toString());
        if (fault != NONE) {
            return no(-6);
        } else if (revs.size() == 16) {
            return no(-7);
        }
        revs.add(new Rev(all.length() == 0 ? List.of() : List.of(all.toString().split("/")), former));
        return revs.size() - 1;
    }

    static boolean isText(String t) {
        return t.isEmpty() || t.matches("[a-z]{1,8}(/[a-z]{1,8}){0,23}");
    }

    /** The first place at which no text goes on: tried by each way to end it. */
    static int faultOf(String t) {
        if (isText(t)) {
            return NONE;
        }
        for (int n = 1; n <= t.length(); n++) {
            String head = t.substring(0, n);
            if (!isText(head) && !isText(head + "a")) {
                return n - 1;
            }
        }
        return t.length();
    }

    int lines(int r) {
        return rev(r) ? revs.get(r).lines.size() : no(-1);
    }

    int letter(int r, int i, int k) {
        if (!rev(r)) {
            return no(-1);
        } else if (!line(r, i) || k < 0 || k > 8) {
            return no(-5);
        }
        String t = revs.get(r).lines.get(i);
        return k < t.length() ? t.charAt(k) : 0;
    }

    int former(int r) {
        return rev(r) ? revs.get(r).former : no(-11);
    }

    int rule(int what, int v) {
        int[] least = {1, 0, 0};
        int[] most = {9, 99, 20};
        if (what < 0 || what > 2 || v < least[what] || v > most[what]) {
            return no(-6);
        }
        int was = rules[what];
        rules[what] = v;
        return was;
    }

    /** PLACES of the LINES of a in b; in the last two elements how many PAIRS, how many MOVED. */
    int[] match(int ra, int rb) {
        List<String> a = revs.get(ra).lines;
        List<String> b = revs.get(rb).lines;
        int[] place = new int[a.size() + 2];
        Arrays.fill(place, NONE);
        boolean[] used = new boolean[b.size()];
        Integer[][] memo = new Integer[a.size() + 1][b.size() + 1];
        int i = 0;
        int j = 0;
        int pairs = 0;
        while (i < a.size() && j < b.size()) {
            if (a.get(i).equals(b.get(j))) {
                used[j] = true;
                place[i++] = j++;
                pairs++;
            } else if (common(a, b, i + 1, j, memo) >= common(a, b, i, j + 1, memo)) {
                i++;
            } else {
                j++;
            }
        }
        int moved = 0;
        boolean again = true;
        while (again) {
            again = false;
            search:
            for (int n = 24; n >= rules[0]; n--) {
                for (i = 0; i + n <= a.size(); i++) {
                    for (j = 0; j + n <= b.size(); j++) {
                        boolean fits = true;
                        for (int k = 0; k < n && fits; k++) {
                            fits = a.get(i + k).equals(b.get(j + k)) && place[i + k] == NONE && !used[j + k];
                        }
                        if (fits) {
                            for (int k = 0; k < n; k++) {
                                place[i + k] = j + k;
                                used[j + k] = true;
                            }
                            moved += n;
                            again = true;
                            break search;
                        }
                    }
                }
            }
        }
        place[a.size()] = pairs;
        place[a.size() + 1] = moved;
        return place;
    }

    /** The most LINES of a from i on found in b from j on: the i-th is left out, or found at the first like it. */
    static int common(List<String> a, List<String> b, int i, int j, Integer[][] memo) {
        if (i >= a.size() || j >= b.size()) {
            return 0;
        }
        if (memo[i][j] == null) {
            int best = common(a, b, i + 1, j, memo);
            int at = b.subList(j, b.size()).indexOf(a.get(i));
            if (at >= 0) {
                best = Math.max(best, 1 + common(a, b, i + 1, j + at + 1, memo));
            }
            memo[i][j] = best;
        }
        return memo[i][j];
    }

    int place(int a, int b, int i) {
        if (!rev(a) || !rev(b)) {
            return no(-11);
        }
        return line(a, i) ? match(a, b)[i] : no(-15);
    }

    int matched(int a, int b, int what) {
        if (!rev(a) || !rev(b)) {
            return no(-1);
        }
        return what == 0 || what == 1 ? match(a, b)[revs.get(a).lines.size() + what] : no(-5);
    }

    /** b is behind a. */
    boolean behind(int b, int a) {
        return b != NONE && (b == a || behind(revs.get(b).former, a));
    }

    int through(int a, int b, int i) {
        if (!rev(a) || !rev(b)) {
            return no(-11);
        } else if (!line(a, i)) {
            return no(-15);
        } else if (!behind(b, a)) {
            return no(-16);
        }
        return carried(a, b, i);
    }

    int carried(int a, int b, int i) {
        if (a == b) {
            return i;
        }
        int at = carried(a, revs.get(b).former, i);
        return at == NONE ? NONE : match(revs.get(b).former, b)[at];
    }

    int origin(int t, int i, int what) {
        if (!rev(t)) {
            return no(-1);
        } else if (!line(t, i) || what != 0 && what != 1) {
            return no(-5);
        }
        int f = revs.get(t).former;
        for (int k = 0; f != NONE && k < revs.get(f).lines.size(); k++) {
            if (match(f, t)[k] == i) {
                return origin(f, k, what);
            }
        }
        return what == 0 ? t : i;
    }

    int remark(int kind, int a, int r, int p, int q, int answers) {
        if (kind < 0 || kind > 6 || !rev(r) || answers != NONE && !rem(answers)) {
            return no(-1);
        } else if (!line(r, p) || !line(r, q) || q < p) {
            return no(-5);
        } else if (a < 0 || a > 9) {
            return no(-6);
        } else if (rems.size() == 16) {
            return no(-7);
        }
        rems.add(new Rem(kind, a, r, p, q, answers, false));
        return rems.size() - 1;
    }

    boolean inThread(int of, int m) {
        int up = rems.get(m).answers;
        return up != NONE && (up == of || inThread(of, up));
    }

    int remarkOf(int m, int what) {
        if (!rem(m)) {
            return no(-5);
        }
        Rem x = rems.get(m);
        int depth = 0;
        for (int up = x.answers; up != NONE; up = rems.get(up).answers) {
            depth++;
        }
        int thread = 0;
        boolean open = !x.settled;
        for (int k = 0; k < rems.size(); k++) {
            if (inThread(m, k)) {
                thread++;
                open |= !rems.get(k).settled;
            }
        }
        int[] of = {x.kind, x.a, x.rev, x.p, x.q, x.answers, x.settled ? 1 : 0, depth, thread, open ? 1 : 0};
        return what >= 0 && what < 10 ? of[what] : no(-5);
    }

    int settle(int m, boolean is) {
        if (!rem(m)) {
            return no(-1);
        }
        Rem x = rems.get(m);
        rems.set(m, new Rem(x.kind, x.a, x.rev, x.p, x.q, x.answers, is));
        return x.settled ? 1 : 0;
    }

    /** {p, q} on b, or null: LOST. */
    int[] follow(int kind, int a, int p, int q, int b) {
        int[] place = match(revs.get(b).former, b);
        List<Integer> has = new ArrayList<>();
        for (int i = p; i <= q; i++) {
            if (place[i] != NONE) {
                has.add(place[i]);
            }
        }
        int[] remark = has.isEmpty() ? null
            : new int[] {has.stream().min(Integer::compare).get(), has.stream().max(Integer::compare).get()};
        int[] point = place[p] == NONE ? null : new int[] {place[p], place[p]};
        int[] caret = point;
        for (int i = p - 1; caret == null && i >= 0; i--) {
            caret = place[i] == NONE ? null : new int[] {place[i], place[i]};
        }
        int had = q - p + 1;
        int longer = remark == null ? 0 : remark[1] - remark[0] + 1 - had;
        boolean gap = has.size() < had;
        return switch (kind) {
            case 0 -> remark;
            case 1 -> point;
            case 2 -> gap || longer > 0 ? null : remark;
            case 3 -> caret;
            case 4 -> 10 * has.size() < a * had ? null : remark;
            case 5 -> gap || longer > a ? null : remark;
            default -> caret == null ? null : new int[] {caret[0], revs.get(b).lines.size() - 1};
        };
    }

    /** A REMARK PUT on t, as one of a KIND; t is behind the one on which it is made. */
    Put putOn(Rem x, int kind, int t) {
        return puts(x, kind, t).get(t);
    }

    /** By REVISION: how the REMARK is PUT on it, on all from the one on which it is made to t. */
    Map<Integer, Put> puts(Rem x, int kind, int t) {
        if (t == x.rev) {
            return new HashMap<>(Map.of(t, new Put(x.p, x.q, 0)));
        }
        Map<Integer, Put> puts = puts(x, kind, revs.get(t).former);
        puts.put(t, next(x, kind, t, puts));
        return puts;
    }

    Put next(Rem x, int kind, int t, Map<Integer, Put> puts) {
        Put before = puts.get(revs.get(t).former);
        if (before.p != NONE) {
            int[] span = follow(kind, x.a, before.p, before.q, t);
            if (span != null) {
                return new Put(span[0], span[1], 1);
            }
        }
        Context c = context(t, puts);
        int s = bestPlace(c, t);
        if (s == NONE || score(c, t, s) < rules[1]) {
            return new Put(NONE, NONE, 3);
        }
        return new Put(s, s + c.span.size() - 1, 2);
    }

    String text(int r, int i) {
        return line(r, i) ? revs.get(r).lines.get(i) : "";
    }

    Context context(int t, Map<Integer, Put> puts) {
        int r = revs.get(t).former;
        while (puts.get(r).p == NONE) {
            r = revs.get(r).former;
        }
        Put put = puts.get(r);
        return new Context(text(r, put.p - 1), revs.get(r).lines.subList(put.p, put.q + 1), text(r, put.q + 1));
    }

    Context context(Rem x, int t) {
        return context(t, puts(x, x.kind, t));
    }

    int score(Context c, int t, int s) {
        int score = 0;
        for (int k = 0; k < c.span.size(); k++) {
            score += c.span.get(k).equals(text(t, s + k)) ? 3 : 0;
        }
        score += c.ahead.equals(text(t, s - 1)) ? 2 : 0;
        return score + (c.behind.equals(text(t, s + c.span.size())) ? 2 : 0);
    }

    /** The first place of the greatest SCORE, if MARGIN is kept; NONE. */
    int bestPlace(Context c, int t) {
        int last = revs.get(t).lines.size() - c.span.size();
        for (int s = 0; s <= last; s++) {
            boolean best = true;
            for (int other = 0; other <= last; other++) {
                int less = score(c, t, s) - score(c, t, other);
                best &= other == s || less >= rules[2] && less >= 0;
            }
            if (best) {
                return s;
            }
        }
        return NONE;
    }

    int put(int m, int t, int what) {
        if (!rem(m) || !rev(t)) {
            return no(-11);
        } else if (what < 0 || what > 2) {
            return no(-15);
        } else if (!behind(t, rems.get(m).rev)) {
            return no(-16);
        }
        Put put = putOn(rems.get(m), rems.get(m).kind, t);
        return new int[] {put.p, put.q, put.how}[what];
    }

    int score(int m, int t, int s) {
        if (!rem(m) || !rev(t)) {
            return no(-1);
        }
        Rem x = rems.get(m);
        if (!behind(t, x.rev) || t == x.rev) {
            return no(-6);
        }
        Context c = context(x, t);
        if (s < 0 || s + c.span.size() > revs.get(t).lines.size() || s > 99) {
            return no(-5);
        }
        return score(c, t, s);
    }

    int leastNeed(int m, int t) {
        if (!rem(m) || !rev(t)) {
            return no(-11);
        }
        Rem x = rems.get(m);
        if (!behind(t, x.rev) || t == x.rev) {
            return no(-16);
        }
        Context c = context(x, t);
        int s = bestPlace(c, t);
        return s == NONE ? NONE : score(c, t, s);
    }

    int fitting(int m, int t) {
        if (!rem(m) || !rev(t)) {
            return no(-1);
        } else if (!behind(t, rems.get(m).rev)) {
            return no(-6);
        }
        int bits = 0;
        for (int kind = 0; kind < 7; kind++) {
            bits += putOn(rems.get(m), kind, t).p == NONE ? 0 : 1 << kind;
        }
        return bits;
    }

    /** By REMARK: how it is PUT on t; null if t isn't behind. */
    List<Put> all(int t) {
        List<Put> puts = new ArrayList<>();
        for (Rem x : rems) {
            puts.add(behind(t, x.rev) ? putOn(x, x.kind, t) : null);
        }
        return puts;
    }

    int inOrder(int t, int k) {
        if (!rev(t)) {
            return no(-11);
        }
        List<Put> puts = all(t);
        List<Integer> order = new ArrayList<>();
        for (int m = 0; m < puts.size(); m++) {
            if (puts.get(m) != null && puts.get(m).p != NONE) {
                order.add(m);
            }
        }
        order.sort((m, n) -> puts.get(m).p - puts.get(n).p);
        return k >= 0 && k < order.size() ? order.get(k) : NONE;
    }

    int who(int t, int what) {
        if (!rev(t)) {
            return no(-1);
        } else if (what < 0 || what > 2) {
            return no(-5);
        }
        List<Put> puts = all(t);
        int[] bits = {0, 0, 99};
        for (int m = 0; m < puts.size(); m++) {
            if (puts.get(m) != null) {
                bits[puts.get(m).p == NONE ? 1 : 0] |= 1 << m;
            }
        }
        int most = 0;
        for (int i = 0; i < revs.get(t).lines.size(); i++) {
            if (heat(puts, i) > most) {
                most = heat(puts, i);
                bits[2] = i;
            }
        }
        return bits[what];
    }

    int heat(List<Put> puts, int i) {
        return (int) puts.stream().filter(x -> x != null && x.p != NONE && x.p <= i && i <= x.q).count();
    }

    int covered(int t) {
        if (!rev(t)) {
            return no(-1);
        }
        int bits = 0;
        List<Put> puts = all(t);
        for (int i = 0; i < revs.get(t).lines.size(); i++) {
            bits += heat(puts, i) > 0 ? 1 << i : 0;
        }
        return bits;
    }

    int judge(int s, int m, int t) {
        if (!shelf(s) || !rem(m) || !rev(t)) {
            return no(-11);
        } else if (shelves[s] instanceof Integer) {
            return no(-12);
        } else if (shelves[s] == null) {
            return no(-13);
        }
        Rem x = rems.get(m);
        List<Integer> way = new ArrayList<>();
        for (int r = t; r != NONE; r = revs.get(r).former) {
            if (behind(r, x.rev)) {
                way.add(0, r);
            }
        }
        if (size(shelves[s]) < way.size()) {
            return no(-15);
        } else if (!behind(t, x.rev)) {
            return no(-16);
        }
        for (int k = 0; k < way.size(); k++) {
            if ((int) at(shelves[s], k) != putOn(x, x.kind, way.get(k)).p) {
                return k;
            }
        }
        return NONE;
    }

    int again(int r, int b) {
        if (!rev(r) || !rev(b)) {
            return no(-1);
        } else if (behind(b, r)) {
            return no(-6);
        }
        List<Rem> made = new ArrayList<>();
        for (Rem x : rems) {
            if (x.rev == r && !x.settled) {
                made.add(new Rem(x.kind, x.a, revs.size(), x.p, x.q, x.answers, false));
            }
        }
        if (revs.size() == 16 || rems.size() + made.size() > 16) {
            return no(-7);
        }
        revs.add(new Rev(revs.get(r).lines, b));
        rems.addAll(made);
        return made.size();
    }

    int draw(int n) {
        seed = seed * 1103515245 + 12345;
        return (int) ((seed & 0xFFFF0000L) / 65536 % n);
    }

    int drift(int n) {
        if (revs.isEmpty()) {
            return no(-5);
        } else if (n < 1 || n > 15) {
            return no(-6);
        } else if (revs.size() + n > 16) {
            return no(-7);
        }
        for (int k = 0; k < n; k++) {
            List<String> lines = new ArrayList<>(revs.get(revs.size() - 1).lines);
            int d = draw(4);
            int i = lines.isEmpty() ? 0 : draw(lines.size());
            if (d == 0 && lines.size() < 24) {
                lines.add(i, "" + (char) ('a' + draw(26)));
            } else if (d == 1 && !lines.isEmpty()) {
                lines.remove(i);
            } else if (d == 2 && !lines.isEmpty()) {
                lines.add(0, lines.remove(i));
            } else if (d == 3 && !lines.isEmpty()) {
                lines.set(i, "z");
            }
            revs.add(new Rev(lines, revs.size() - 1));
        }
        return revs.size() - 1;
    }

    int seed(int v) {
        int was = seed;
        seed = v;
        return was;
    }

    /** The KINDS as classes of Java, so that super is Java's own. */
    private class Acting {
        final int m;
        final int k;

        Acting(int m, int k) {
            this.m = m;
            this.k = k;
        }

        int points(int x) {
            trace.add(10);
            return x + m;
        }

        int weighs(int x) {
            trace.add(11);
            return points(x) * 2;
        }

        int clings(int x) {
            trace.add(12);
            return weighs(x) ^ points(x - k);
        }
    }

    private class Point extends Acting {
        Point(int m, int k) {
            super(m, k);
        }

        @Override int points(int x) {
            trace.add(20);
            return super.points(x) + k;
        }
    }

    private class Block extends Acting {
        Block(int m, int k) {
            super(m, k);
        }

        @Override int weighs(int x) {
            trace.add(30);
            return super.weighs(x) * 3;
        }
    }

    private class Caret extends Point {
        Caret(int m, int k) {
            super(m, k);
        }

        @Override int points(int x) {
            trace.add(40);
            return super.points(x + 1);
        }
    }

    private class Loose extends Acting {
        Loose(int m, int k) {
            super(m, k);
        }

        @Override int clings(int x) {
            trace.add(50);
            return -super.clings(x);
        }

        @Override int points(int x) {
            trace.add(51);
            return super.points(x) - m;
        }
    }

    private class Wall extends Block {
        Wall(int m, int k) {
            super(m, k);
        }

        @Override int clings(int x) {
            trace.add(60);
            return super.clings(x) ^ 5;
        }
    }

    private class Tail extends Caret {
        Tail(int m, int k) {
            super(m, k);
        }

        @Override int points(int x) {
            trace.add(70);
            return super.points(x) * 2;
        }

        @Override int weighs(int x) {
            trace.add(71);
            return super.weighs(x - k);
        }
    }

    int act(int m, int move, int x) {
        trace.clear();
        if (!rem(m) || move < 0 || move > 2) {
            return 0;
        }
        int k = rems.get(m).a;
        Acting actor = switch (rems.get(m).kind) {
            case 0 -> new Acting(m, k);
            case 1 -> new Point(m, k);
            case 2 -> new Block(m, k);
            case 3 -> new Caret(m, k);
            case 4 -> new Loose(m, k);
            case 5 -> new Wall(m, k);
            default -> new Tail(m, k);
        };
        return move == 0 ? actor.points(x) : move == 1 ? actor.weighs(x) : actor.clings(x);
    }

    int trace(int i) {
        return i >= 0 && i < trace.size() && i < 20 ? trace.get(i) : NONE;
    }

    int image() {
        imageRevs = new ArrayList<>(revs);
        imageRems = new ArrayList<>(rems);
        imageRules = rules.clone();
        imageSeed = seed;
        return rems.size();
    }

    int restore() {
        if (imageRevs == null) {
            return no(-6);
        }
        revs = new ArrayList<>(imageRevs);
        rems = new ArrayList<>(imageRems);
        rules = imageRules.clone();
        seed = imageSeed;
        for (int s = 0; s < 8; s++) {
            if (shelves[s] instanceof Integer m && !rem(m)) {
                shelves[s] = null;
            }
        }
        return rems.size();
    }

    int status(int what) {
        int settled = 0;
        int roots = 0;
        for (int m = 0; m < rems.size(); m++) {
            settled += rems.get(m).settled ? 1 : 0;
            roots += rems.get(m).answers == NONE && remarkOf(m, 9) == 1 ? 1 : 0;
        }
        int latest = revs.isEmpty() ? 0 : revs.get(revs.size() - 1).lines.size();
        int[] of = {revs.size(), rems.size(), settled, roots, rules[0], rules[1], rules[2], seed, latest, trace.size()};
        return what >= 0 && what < 10 ? of[what] : what > 10 && what < 18 ? refusals[what] : NONE;
    }
}
