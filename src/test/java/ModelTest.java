import java.util.Random;

/**
 * Many runs of calls, drawn from fixed seeds, on LineRemarks and on the Model: each answer is the same,
 * up to the 512th call; what later calls answer is free.
 */
public final class ModelTest {
    private static final Checks due = new Checks("ModelTest");
    private static final int CALLS = 512;

    private final Random random;
    private final LineRemarks x = new LineRemarks();
    private final Model y = new Model();
    private final String name;
    private final int letters;
    private final boolean stray;
    private int calls;

    private ModelTest(int seed) {
        random = new Random(seed);
        name = "run " + seed + ": ";
        letters = 2 + random.nextInt(8);
        stray = seed % 4 == 0;
    }

    public static void main(String[] args) {
        int runs = args.length > 0 ? Integer.parseInt(args[0]) : 1200;
        for (int seed = 0; seed < runs; seed++) {
            new ModelTest(seed).run();
        }
        due.end();
    }

    private int below(int n) {
        return random.nextInt(n);
    }

    /** A number below n mostly, or one beside it. */
    private int near(int n) {
        if (stray && below(40) == 0) {
            int[] odd = {Integer.MIN_VALUE, Integer.MAX_VALUE, 256, -11, 32, 64};
            return odd[below(odd.length)];
        }
        return below(stray ? 12 : 40) == 0 ? below(n + 4) - 2 : below(Math.max(1, n));
    }

    private int rev() {
        return near(y.revs.size());
    }

    private int rem() {
        return near(y.rems.size());
    }

    private void same(String call, long got, long want) {
        calls++;
        if (calls <= CALLS) {
            due.due(name + call, got, want);
        }
    }

    private void write(int s, String text, int sort) {
        same("row", x.row(s, sort, text.length()), y.row(s, sort, text.length()));
        for (int i = 0; i < text.length(); i++) {
            long v = text.charAt(i) + ((long) below(3) << 32);
            same("set", x.set(s, i, v), y.set(s, i, v));
        }
    }

    private String word() {
        StringBuilder word = new StringBuilder();
        for (int k = below(8) == 0 ? 1 + below(8) : 1; k > 0; k--) {
            word.append((char) ('a' + below(letters)));
        }
        return word.toString();
    }

    /** A text of its own, or one that comes of a REVISION by some edits. */
    private String text() {
        java.util.ArrayList<String> lines = new java.util.ArrayList<>();
        if (!y.revs.isEmpty() && below(5) > 0) {
            lines.addAll(y.revs.get(below(y.revs.size())).lines());
            for (int edits = below(4); edits > 0; edits--) {
                edit(lines);
            }
        } else {
            for (int n = below(below(6) == 0 ? 26 : 12); n > 0; n--) {
                lines.add(word());
            }
        }
        String text = String.join("/", lines);
        if (below(15) == 0) {
            int at = below(text.length() + 1);
            text = text.substring(0, at) + "/{`0 a"  .charAt(below(6)) + text.substring(at);
        }
        return text.length() > 160 ? text.substring(0, 160) : text;
    }

    private void edit(java.util.ArrayList<String> lines) {
        int n = lines.size();
        int from = below(n + 1);
        int to = from + below(Math.min(4, n - from + 1));
        java.util.List<String> cut = new java.util.ArrayList<>(lines.subList(from, to));
        if (below(4) > 0) {
            lines.subList(from, to).clear();
        }
        if (below(3) > 0) {
            lines.addAll(below(lines.size() + 1), cut);
        }
        if (below(3) == 0) {
            lines.add(below(lines.size() + 1), word());
        }
    }

    private void run() {
        while (calls < CALLS - 19) {
            if (y.revs.size() < 3 || y.revs.size() < 9 && below(10) == 0 || below(60) == 0) {
                revise();
            } else if (y.rems.size() < 3 || below(12) == 0) {
                remark();
            } else {
                call(below(40));
            }
            int what = near(19);
            same("status(" + what + ")", x.status(what), y.status(what));
        }
        for (int what = 0; what < 19; what++) {
            same("status(" + what + ")", x.status(what), y.status(what));
        }
    }

    private void revise() {
        int s = below(8);
        if (below(10) > 0) {
            write(s, text(), below(4));
        }
        int former = below(4) == 0 ? near(y.revs.size() + 1) - 1 : y.revs.size() - 1;
        same("revise", x.revise(s, former), y.revise(s, former));
        same("fault", x.fault(), y.fault);
    }

    private void remark() {
        int kind = near(7);
        int a = near(10);
        int r = below(3) > 0 ? near(Math.min(3, y.revs.size())) : rev();
        int lines = y.rev(r) ? y.revs.get(r).lines().size() : 3;
        int p = near(lines);
        int q = p + near(4);
        int answers = below(2) == 0 ? -1 : rem();
        same("remark", x.remark(kind, a, r, p, q, answers), y.remark(kind, a, r, p, q, answers));
    }

    private void call(int which) {
        if (which < 10) {
            shelfCall(which);
        } else if (which < 19) {
            revisionCall(which);
        } else if (which < 31) {
            remarkCall(which);
        } else {
            wholeCall(which);
        }
    }

    private void shelfCall(int which) {
        int s = near(8);
        int i = near(14);
        int j = near(14);
        int n = near(8);
        long v = random.nextLong();
        switch (which) {
            case 0 -> same("row", x.row(s, n % 4, i), y.row(s, n % 4, i));
            case 1 -> same("row", x.row(s, n, i * 13), y.row(s, n, i * 13));
            case 2 -> same("set", x.set(s, i, v), y.set(s, i, v));
            case 3 -> {
                int q = near(8);
                same("copy", x.copy(s, q, i, j, n), y.copy(s, q, i, j, n));
                for (int k = 0; k < 20; k++) {
                    same("element", x.element(q, k), y.element(q, k));
                }
            }
            case 4 -> same("element", x.element(s, i), y.element(s, i));
            case 5, 6 -> {
                int m = below(6) == 0 ? -1 : rem();
                same("show", x.show(s, m), y.show(s, m));
            }
            case 7 -> same("holds", x.holds(s), y.holds(s));
            default -> same("says", x.says(s, n), y.says(s, n));
        }
    }

    private void revisionCall(int which) {
        int a = rev();
        int b = rev();
        int i = near(y.rev(a) ? y.revs.get(a).lines().size() : 4);
        int what = near(2);
        int letter = near(9);
        int rule = near(3);
        int v = below(2) == 0 ? near(5) : near(rule == 1 ? 20 : rule == 0 ? 10 : 21);
        switch (which) {
            case 10 -> same("lines", x.lines(a), y.lines(a));
            case 11 -> same("letter", x.letter(a, i, letter), y.letter(a, i, letter));
            case 12 -> same("former", x.former(a), y.former(a));
            case 13 -> same("rule", x.rule(rule, v), y.rule(rule, v));
            case 14, 15 -> same("place", x.place(a, b, i), y.place(a, b, i));
            case 16 -> same("matched", x.matched(a, b, what), y.matched(a, b, what));
            case 17 -> same("through", x.through(a, b, i), y.through(a, b, i));
            default -> same("origin", x.origin(a, i, what), y.origin(a, i, what));
        }
    }

    private void remarkCall(int which) {
        int m = rem();
        int t = rev();
        int what = near(3);
        int s = near(6);
        int of = near(10);
        boolean is = below(2) == 0;
        switch (which) {
            case 19, 20, 21, 22 -> same("put", x.put(m, t, what), y.put(m, t, what));
            case 23, 24 -> same("score", x.score(m, t, s), y.score(m, t, s));
            case 25, 26 -> same("leastNeed", x.leastNeed(m, t), y.leastNeed(m, t));
            case 27, 28 -> same("fitting", x.fitting(m, t), y.fitting(m, t));
            case 29 -> same("remarkOf", x.remarkOf(m, of), y.remarkOf(m, of));
            default -> same("settle", x.settle(m, is), y.settle(m, is));
        }
    }

    private void wholeCall(int which) {
        int t = rev();
        int b = rev();
        int m = rem();
        int n = near(8);
        int v = random.nextInt();
        switch (which) {
            case 31 -> same("inOrder", x.inOrder(t, n), y.inOrder(t, n));
            case 32 -> same("who", x.who(t, n % 3), y.who(t, n % 3));
            case 33 -> same("covered", x.covered(t), y.covered(t));
            case 34, 35 -> judge(t, m);
            case 36 -> {
                act(m, near(3), v);
                same("seed", x.seed(v), y.seed(v));
            }
            case 37 -> same("again", x.again(t, b), y.again(t, b));
            case 38 -> same("drift", x.drift(n / 3), y.drift(n / 3));
            default -> {
                if (below(2) == 0) {
                    same("image", x.image(), y.image());
                } else {
                    same("restore", x.restore(), y.restore());
                }
            }
        }
    }

    private void act(int m, int move, int v) {
        same("act", x.act(m, move, v), y.act(m, move, v));
        for (int i = -1; i < 22; i++) {
            same("trace", x.trace(i), y.trace(i));
        }
    }

    /** Tells a WALK that is right, or right but for one place. */
    private void judge(int t, int m) {
        int s = near(8);
        if (below(3) > 0 && y.rem(m) && y.rev(t) && y.behind(t, y.rems.get(m).rev())) {
            java.util.ArrayList<Integer> told = new java.util.ArrayList<>();
            Model.Rem x0 = y.rems.get(m);
            for (int r = t; r != -1 && y.behind(r, x0.rev()); r = y.revs.get(r).former()) {
                told.add(0, y.putOn(x0, x0.kind(), r).p());
            }
            if (below(2) == 0) {
                told.set(below(told.size()), below(5) - 1);
            }
            int n = told.size() - (below(5) == 0 ? 1 : 0) + below(2);
            int sort = below(4);
            same("row", x.row(s, sort, n), y.row(s, sort, n));
            for (int i = 0; i < told.size(); i++) {
                long v = told.get(i);
                same("set", x.set(s, i, v), y.set(s, i, v));
            }
        }
        same("judge", x.judge(s, m, t), y.judge(s, m, t));
    }
}
