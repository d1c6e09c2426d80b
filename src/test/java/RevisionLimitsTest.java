/** The least and the greatest that REVISIONS take: texts and their FAULTS, numbers, RUN, long CHAINS. */
public final class RevisionLimitsTest {
    private static final Checks due = new Checks("RevisionLimitsTest");

    public static void main(String[] args) {
        lettersOfLine();
        fromAToZ();
        besideAToZ();
        slashes();
        endsTooEarly();
        linesOfRevision();
        lastLine();
        fullRows();
        faultOfLatest();
        sixteen();
        formers();
        behindTheLast();
        ruleBounds();
        ofNoLines();
        ofAllLines();
        wayOfTies();
        mostCommon();
        runBounds();
        greatestRun();
        leastOfA();
        leastOfB();
        notTwice();
        inNoPair();
        takenInB();
        runsAtEnds();
        runsBehindTheShorter();
        stepsThrough();
        throughEnds();
        origins();
        due.end();
    }

    private static void refused(LineRemarks x, String text, int fault) {
        due.due("revise " + text, Checks.revise(x, text, -1), -6);
        due.due("fault of " + text, x.fault(), fault);
        due.due("none is made", x.status(0), 0);
    }

    private static void taken(LineRemarks x, String text) {
        int r = x.status(0);
        due.due("revise " + text, Checks.revise(x, text, -1), r);
        due.due("no fault of " + text, x.fault(), -1);
        due.same("text", Checks.text(x, r), text);
    }

    /** "A LINE is 1 to 8 letters". */
    private static void lettersOfLine() {
        for (int n = 1; n <= 8; n++) {
            LineRemarks x = new LineRemarks();
            String line = "abcdefgh".substring(0, n);
            taken(x, line);
            taken(x, "k/" + line + "/l");
            for (int k = 0; k <= 8; k++) {
                due.due("letter " + k + " of " + n, x.letter(0, 0, k), k < n ? 'a' + k : 0);
                due.due("letter " + k + " of " + n, x.letter(1, 1, k), k < n ? 'a' + k : 0);
            }
            due.due("k 9", x.letter(0, 0, 9), -5);
        }
        LineRemarks x = new LineRemarks();
        refused(x, "abcdefghi", 8);
        refused(x, "abcdefgh/abcdefghi", 17);
        refused(x, "abcdefghi/", 8);
        refused(x, "a//b", 2);
        refused(x, "a/b//", 4);
    }

    /** "letters (a to z)": each of them, at each end of a LINE. */
    private static void fromAToZ() {
        LineRemarks x = new LineRemarks();
        taken(x, "abcdefgh/ijklmnop/qrstuvwx/yz");
        taken(x, "a/b/c/d/e/f/g/h/i/j/k/l/m");
        taken(x, "n/o/p/q/r/s/t/u/v/w/x/y/z");
        for (int i = 0; i < 13; i++) {
            due.due("letter", x.letter(1, i, 0), 97 + i);
            due.due("letter", x.letter(2, i, 0), 110 + i);
        }
        taken(x, "aaaaaaaa/zzzzzzzz/az/za");
    }

    /** What can't stand in a text, ahead of all, behind a letter and behind a slash, in ROWS of each SORT. */
    private static void besideAToZ() {
        int[] wrong = {96, 123, 64, 65, 90, 91, 46, 48, 0, 1, 10, 32, 127, -1, -97, -128};
        for (int sort = 0; sort < 4; sort++) {
            LineRemarks x = new LineRemarks();
            x.row(0, sort, 3);
            for (int sign : wrong) {
                for (int at = 0; at < 3; at++) {
                    x.set(0, 0, 'a');
                    x.set(0, 1, at == 2 ? '/' : 'b');
                    x.set(0, 2, 'c');
                    x.set(0, at, sign);
                    due.due("sign " + sign + " at " + at, x.revise(0, -1), -6);
                    due.due("fault of sign " + sign, x.fault(), at);
                }
            }
            due.due("none is made", x.status(0), 0);
        }
        LineRemarks x = new LineRemarks();
        for (int sort = 1; sort < 4; sort++) {
            x.row(0, sort, 1);
            for (int sign : new int[] {97 + 256, 97 - 256, 47 + 256, 122 + 128, 32767, -32768}) {
                x.set(0, 0, sign);
                due.due("sign " + sign, x.revise(0, -1), -6);
                due.due("fault", x.fault(), 0);
            }
        }
        x.row(0, 2, 1);
        for (int sign : new int[] {Integer.MIN_VALUE, Integer.MAX_VALUE, 97 + 65536}) {
            x.set(0, 0, sign);
            due.due("sign " + sign, x.revise(0, -1), -6);
        }
    }

    /** A slash stands behind a LINE alone: "the first place at which an element can't stand". */
    private static void slashes() {
        LineRemarks x = new LineRemarks();
        refused(x, "/", 0);
        refused(x, "/a", 0);
        refused(x, "//", 0);
        refused(x, "a//", 2);
        refused(x, "a/b//c", 4);
        refused(x, "a/{/", 2);
        refused(x, "A/B", 0);
        refused(x, "a/b/`/{", 4);
        refused(x, "abcdefghijk//", 8);
    }

    /** "(the number of elements, if it ends too early)". */
    private static void endsTooEarly() {
        LineRemarks x = new LineRemarks();
        refused(x, "a/", 2);
        refused(x, "abcdefgh/", 9);
        refused(x, "a/b/c/", 6);
        refused(x, "a/".repeat(22), 44);
        refused(x, "a/".repeat(23), 46);
        LineRemarks y = new LineRemarks();
        y.row(0, 0, 0);
        due.due("no elements don't end too early", y.revise(0, -1), 0);
        due.due("no fault", y.fault(), -1);
        due.due("lines", y.lines(0), 0);
    }

    /** "0 to 24 LINES"; "a / ahead of a 25th LINE can't stand". */
    private static void linesOfRevision() {
        for (int n = 0; n <= 24; n++) {
            LineRemarks x = new LineRemarks();
            String text = n == 0 ? "" : "x" + "/y".repeat(n - 1);
            taken(x, text);
            due.due("lines", x.lines(0), n);
            due.due("lines of the latest", x.status(8), n);
            due.due("the last", n == 0 ? 120 : x.letter(0, n - 1, 0), n < 2 ? 120 : 121);
            due.due("one behind", x.letter(0, n, 0), -5);
        }
        LineRemarks x = new LineRemarks();
        refused(x, "x" + "/y".repeat(24), 47);
        refused(x, "x" + "/y".repeat(23) + "/", 47);
        refused(x, "x" + "/y".repeat(23) + "//", 47);
        refused(x, "x" + "/y".repeat(22) + "//y", 46);
        refused(x, "x" + "/y".repeat(40), 47);
        refused(x, "xx" + "/yy".repeat(24), 71);
    }

    /** The 24th LINE has 8 letters at most as well. */
    private static void lastLine() {
        LineRemarks x = new LineRemarks();
        refused(x, "a/".repeat(23) + "abcdefghi", 54);
        refused(x, "a/".repeat(23) + "abcdefgh/", 54);
        refused(x, "a/".repeat(23) + "abcdefg{", 53);
        taken(x, "a/".repeat(23) + "abcdefgh");
        due.due("its last letter", x.letter(0, 23, 7), 'h');
        due.due("behind that", x.letter(0, 23, 8), 0);
    }

    /** ROWS of 160 elements, in each SORT. */
    private static void fullRows() {
        String full = "abcdefgh/".repeat(17) + "stuvwxy";
        for (int sort = 0; sort < 4; sort++) {
            LineRemarks x = new LineRemarks();
            Checks.write(x, 0, sort, full);
            due.due("160 elements", x.revise(0, -1), 0);
            due.due("lines", x.lines(0), 18);
            due.due("the last letter", x.letter(0, 17, 6), 'y');
            due.due("behind it", x.letter(0, 17, 7), 0);
            x.set(0, 159, '/');
            due.due("the last is a slash", x.revise(0, -1), -6);
            due.due("ends too early", x.fault(), 160);
            x.set(0, 159, '{');
            due.due("the last can't stand", x.revise(0, -1), -6);
            due.due("fault", x.fault(), 159);
            x.row(0, sort, 160);
            due.due("160 times 0", x.revise(0, -1), -6);
            due.due("fault", x.fault(), 0);
        }
    }

    /** "of the latest revise() that came to a ROW; NONE: there was none, or none yet". */
    private static void faultOfLatest() {
        LineRemarks x = new LineRemarks();
        due.due("none yet", x.fault(), -1);
        x.revise(0, -1);
        due.due("none that came to a ROW yet", x.fault(), -1);
        Checks.revise(x, "a/b/", -1);
        due.due("one", x.fault(), 4);
        x.revise(8, -1);
        due.due("no SHELF", x.fault(), 4);
        x.revise(7, 0);
        due.due("no FORMER", x.fault(), 4);
        x.revise(0, -1);
        due.due("NOTHING", x.fault(), 4);
        Checks.write(x, 7, 0, "a");
        due.due("a ROW that isn't read yet", x.fault(), 4);
        x.revise(7, 9);
        due.due("no FORMER for a ROW that has none", x.fault(), 4);
        due.due("made", x.revise(7, -1), 0);
        due.due("there was none", x.fault(), -1);
        Checks.revise(x, "a{", -1);
        due.due("another", x.fault(), 1);
        x.remark(0, 0, 0, 0, 0, -1);
        x.show(1, 0);
        due.due("a REMARK", x.revise(1, -1), -2);
        due.due("it stays", x.fault(), 1);
        x.drift(1);
        x.again(1, 0);
        x.again(0, 1);
        x.image();
        x.restore();
        due.due("by revise alone", x.fault(), 1);
        Checks.revise(x, "", -1);
        due.due("none in a text without LINES", x.fault(), -1);
    }

    /** "REVISIONS have numbers, from 0 on, 16 at most", by revise, again and drift. */
    private static void sixteen() {
        LineRemarks x = new LineRemarks();
        for (int r = 0; r < 16; r++) {
            due.due("how many", x.status(0), r);
            due.due("none of the number yet", x.lines(r), -1);
            due.due("revise", Checks.revise(x, "a", -1), r);
            due.due("lines", x.lines(r), 1);
        }
        due.due("a 17th", x.revise(7, -1), -7);
        due.due("how many", x.status(0), 16);
        due.due("lines of a 17th", x.lines(16), -1);
        LineRemarks y = new LineRemarks();
        Checks.revise(y, "a", -1);
        Checks.revise(y, "b", 0);
        for (int r = 2; r < 16; r++) {
            due.due("again", y.again(1, 0), 0);
            due.due("how many", y.status(0), r + 1);
            due.due("its FORMER", y.former(r), 0);
        }
        due.due("a 17th", y.again(1, 0), -7);
        LineRemarks z = new LineRemarks();
        Checks.revise(z, "a", -1);
        for (int r = 1; r < 16; r++) {
            due.due("drift", z.drift(1), r);
            due.due("its FORMER", z.former(r), r - 1);
        }
        due.due("a 17th", z.drift(1), -7);
        LineRemarks w = new LineRemarks();
        Checks.revise(w, "a", -1);
        due.due("two and 15 are 17", Checks.revise(w, "b", -1) * 100 + w.drift(15), 100 - 7);
        due.due("nothing is made", w.status(0), 2);
        due.due("two and 14 are 16", w.drift(14), 15);
    }

    /** "a FORMER: an earlier REVISION, or NONE": any earlier one, not itself, not a later one. */
    private static void formers() {
        LineRemarks x = new LineRemarks();
        for (int r = 0; r < 16; r++) {
            due.due("itself", Checks.revise(x, "a", r), -1);
            due.due("a later one", x.revise(7, r + 1), -1);
            int former = r % 3 == 0 ? -1 : r % 3 == 1 ? r - 1 : 0;
            due.due("FORMER " + former, x.revise(7, former), r);
            due.due("former", x.former(r), former);
        }
        for (int r = 0; r < 16; r++) {
            due.due("former, later", x.former(r), r % 3 == 0 ? -1 : r % 3 == 1 ? r - 1 : 0);
        }
        due.due("FORMER -2", x.revise(7, -2), -1);
    }

    /** "0 behind its last": letters of another LINE or REVISION aren't seen. */
    private static void behindTheLast() {
        LineRemarks x = new LineRemarks();
        taken(x, "abcdefgh/i/abcdefgh");
        for (int k = 1; k <= 8; k++) {
            due.due("k " + k, x.letter(0, 1, k), 0);
        }
        due.due("k 8 of the first", x.letter(0, 0, 8), 0);
        due.due("k 8 of the last", x.letter(0, 2, 8), 0);
    }

    /** RUN 1 to 9, NEED 0 to 99, MARGIN 0 to 20; 2, 6 and 1 at first. */
    private static void ruleBounds() {
        int[] first = {2, 6, 1};
        int[] least = {1, 0, 0};
        int[] most = {9, 99, 20};
        for (int what = 0; what < 3; what++) {
            LineRemarks x = new LineRemarks();
            int was = first[what];
            for (int v = least[what]; v <= most[what]; v++) {
                due.due("rule " + what + ", " + v, x.rule(what, v), was);
                due.due("status", x.status(4 + what), v);
                was = v;
            }
            due.due("one more", x.rule(what, most[what] + 1), -6);
            due.due("one less", x.rule(what, least[what] - 1), -6);
            due.due("it stays", x.status(4 + what), most[what]);
            for (int other = 0; other < 3; other++) {
                due.due("the others stay", other == what || x.status(4 + other) == first[other] ? 1 : 0, 1);
            }
        }
    }

    private static void ofNoLines() {
        LineRemarks x = new LineRemarks();
        taken(x, "");
        taken(x, "a/b");
        due.due("none with none", x.matched(0, 0, 0) + x.matched(0, 0, 1), 0);
        due.due("none with two", x.matched(0, 1, 0) + x.matched(0, 1, 1), 0);
        due.due("two with none", x.matched(1, 0, 0) + x.matched(1, 0, 1), 0);
        due.due("place", x.place(1, 0, 1), -1);
        due.due("place of a LINE of none", x.place(0, 0, 0), -15);
        Checks.revise(x, "a/b", 0);
        due.due("own LINES", x.origin(2, 1, 0) * 10 + x.origin(2, 1, 1), 21);
        Checks.revise(x, "", 2);
        due.due("through to none", x.through(2, 3, 0), -1);
        due.due("through from none", x.through(3, 3, 0), -15);
    }

    /** 24 LINES with 24: all PAIRS, one PAIR and 23 MOVED, none at all. */
    private static void ofAllLines() {
        StringBuilder there = new StringBuilder();
        StringBuilder back = new StringBuilder();
        for (int i = 0; i < 24; i++) {
            there.append(i == 0 ? "" : "/").append((char) ('a' + i));
            back.insert(0, (i == 0 ? "" : "/")).insert(0, (char) ('a' + i));
        }
        LineRemarks x = new LineRemarks();
        taken(x, there.toString());
        taken(x, back.toString());
        taken(x, "z" + "/z".repeat(23));
        due.due("all are PAIRS", x.matched(0, 0, 0), 24);
        due.due("alike LINES too", x.matched(2, 2, 0), 24);
        due.due("place", x.place(2, 2, 23), 23);
        due.due("none", x.matched(0, 2, 0) + x.matched(0, 2, 1), 0);
        due.due("one PAIR", x.matched(0, 1, 0), 1);
        due.due("RUN 2 lets none move", x.matched(0, 1, 1), 0);
        // L(i + 1, j) is L(i, j + 1) all along, so the LINES of A pass by: the last one is the PAIR.
        due.due("the last is the PAIR", x.place(0, 1, 23), 0);
        x.rule(0, 1);
        due.due("one PAIR", x.matched(0, 1, 0), 1);
        due.due("all others", x.matched(0, 1, 1), 23);
        for (int i = 0; i < 24; i++) {
            due.due("place " + i, x.place(0, 1, i), 23 - i);
        }
    }

    /** "else i is 1 more, if L(i + 1, j) is L(i, j + 1) at least; else j": alike, one more, one less. */
    private static void wayOfTies() {
        String[][] texts = {{"a/b", "b/a"}, {"a/b/c", "b/c/a"}, {"a/b/c", "c/a/b"}, {"b/a/a", "a/b/a"},
            {"a/b/a", "b/a/b"}};
        int[][] places = {{-1, 0}, {-1, 0, 1}, {1, 2, -1}, {-1, 0, 2}, {-1, 0, 1}};
        for (int k = 0; k < texts.length; k++) {
            LineRemarks x = new LineRemarks();
            x.rule(0, 9);
            taken(x, texts[k][0]);
            taken(x, texts[k][1]);
            for (int i = 0; i < places[k].length; i++) {
                due.due("place " + i + " of " + texts[k][0] + " in " + texts[k][1], x.place(0, 1, i), places[k][i]);
            }
        }
    }

    /** How many of some LINES are found, at most, in others in the same order: by trying each choice of them. */
    private static int common(String[] a, String[] b) {
        int most = 0;
        for (int choice = 0; choice < 1 << a.length; choice++) {
            int j = 0;
            boolean found = true;
            for (int i = 0; i < a.length && found; i++) {
                if ((choice >> i & 1) == 0) {
                    continue;
                }
                while (j < b.length && !b[j].equals(a[i])) {
                    j++;
                }
                found = j < b.length;
                j++;
            }
            most = found ? Math.max(most, Integer.bitCount(choice)) : most;
        }
        return most;
    }

    /** "L(i, j) is how many LINES .. are found, at most": so many PAIRS there are, of texts of few letters. */
    private static void mostCommon() {
        int seed = 1;
        for (int round = 0; round < 12; round++) {
            LineRemarks x = new LineRemarks();
            x.rule(0, 9);
            String[][] texts = new String[12][];
            for (int r = 0; r < texts.length; r++) {
                StringBuilder text = new StringBuilder();
                for (int i = 0; i < 4 + r % 5; i++) {
                    seed = Scenes.next(seed);
                    text.append(i == 0 ? "" : "/").append((char) ('a' + (seed >>> 16) % (2 + round % 4)));
                }
                Checks.revise(x, text.toString(), -1);
                texts[r] = text.toString().split("/");
            }
            for (int a = 0; a < texts.length; a++) {
                for (int b = 0; b < texts.length; b++) {
                    String what = String.join("/", texts[a]) + " in " + String.join("/", texts[b]);
                    due.due("PAIRS of " + what, x.matched(a, b, 0), common(texts[a], texts[b]));
                }
            }
        }
    }

    /** "n at least RUN (1 to 9; 2 at first)": of n LINES for each n and RUN. */
    private static void runBounds() {
        for (int n = 1; n <= 11; n++) {
            StringBuilder run = new StringBuilder("a");
            StringBuilder pairs = new StringBuilder("m");
            for (int i = 1; i < n; i++) {
                run.append('/').append((char) ('a' + i));
            }
            for (int i = 1; i <= n; i++) {
                pairs.append('/').append((char) ('m' + i));
            }
            LineRemarks x = new LineRemarks();
            taken(x, run + "/" + pairs);
            taken(x, pairs + "/" + run);
            due.due("RUN 2 at first", x.matched(0, 1, 1), n >= 2 ? n : 0);
            for (int least = 1; least <= 9; least++) {
                x.rule(0, least);
                due.due("PAIRS", x.matched(0, 1, 0), n + 1);
                due.due(n + " MOVED by RUN " + least, x.matched(0, 1, 1), n >= least ? n : 0);
                due.due("the first", x.place(0, 1, 0), n >= least ? n + 1 : -1);
                due.due("the last", x.place(0, 1, n - 1), n >= least ? 2 * n : -1);
                due.due("the first PAIR", x.place(0, 1, n), 0);
            }
        }
    }

    private static void places(LineRemarks x, String what, int... want) {
        for (int i = 0; i < want.length; i++) {
            due.due(what + ", place " + i, x.place(0, 1, i), want[i]);
        }
    }

    /** "those of greatest n": though others are ahead of them in A and in B. */
    private static void greatestRun() {
        LineRemarks x = new LineRemarks();
        taken(x, "a/b/k/b/c/d/m/n/o/p/q/r");
        taken(x, "m/n/o/p/q/r/a/b/c/d");
        // b/c/d is longer than a/b: then a alone is too short.
        places(x, "the longest first", -1, -1, -1, 7, 8, 9, 0, 1, 2, 3, 4, 5);
        x.rule(0, 1);
        places(x, "then again", 6, -1, -1, 7, 8, 9, 0, 1, 2, 3, 4, 5);
        due.due("MOVED", x.matched(0, 1, 1), 4);
        x.rule(0, 4);
        due.due("MOVED by RUN 4", x.matched(0, 1, 1), 0);
    }

    /** "of these of least i": two runs of A for one of B. */
    private static void leastOfA() {
        LineRemarks x = new LineRemarks();
        taken(x, "a/b/k/a/b/m/n/o/p");
        taken(x, "m/n/o/p/a/b");
        places(x, "the first of A", 4, 5, -1, -1, -1, 0, 1, 2, 3);
        LineRemarks y = new LineRemarks();
        taken(y, "c/d/a/b/m/n/o/p/q");
        taken(y, "m/n/o/p/q/a/b/k/c/d");
        places(y, "both, in any order", 8, 9, 5, 6, 0, 1, 2, 3, 4);
    }

    /** "of these of least j": one run of A for two of B. */
    private static void leastOfB() {
        LineRemarks x = new LineRemarks();
        taken(x, "a/b/m/n/o/p/q");
        taken(x, "m/n/o/p/q/a/b/k/a/b");
        places(x, "the first of B", 5, 6, 0, 1, 2, 3, 4);
        due.due("MOVED", x.matched(0, 1, 1), 2);
    }

    /** "none of them in a PAIR or MOVED yet": three runs of A for two of B. */
    private static void notTwice() {
        LineRemarks x = new LineRemarks();
        taken(x, "a/b/k/a/b/l/a/b/m/n/o/p/q/r/s");
        taken(x, "m/n/o/p/q/r/s/a/b/y/a/b");
        places(x, "two of three", 7, 8, -1, 10, 11, -1, -1, -1, 0, 1, 2, 3, 4, 5, 6);
        due.due("MOVED", x.matched(0, 1, 1), 4);
        LineRemarks y = new LineRemarks();
        taken(y, "a/a/a/m/n/o/p");
        taken(y, "m/n/o/p/a/a/a/a/a");
        places(y, "three alike", 4, 5, 6, 0, 1, 2, 3);
        due.due("MOVED", y.matched(0, 1, 1), 3);
        due.due("the other way", y.matched(1, 0, 1), 3);
        due.due("the first three", y.place(1, 0, 4) * 100 + y.place(1, 0, 6) * 10 - y.place(1, 0, 7), 21);
    }

    /** A LINE in a PAIR ends a run, in A and in B. */
    private static void inNoPair() {
        LineRemarks x = new LineRemarks();
        taken(x, "a/b/c/m/n/o/p");
        taken(x, "b/m/n/o/p/a/b/c");
        // b is a PAIR of the b ahead, so a and c are left, each alone.
        places(x, "b is a PAIR", -1, 0, -1, 1, 2, 3, 4);
        due.due("MOVED", x.matched(0, 1, 1), 0);
        x.rule(0, 1);
        places(x, "a and c by RUN 1", 5, 0, 7, 1, 2, 3, 4);
        due.due("MOVED", x.matched(0, 1, 1), 2);
    }

    /** LINES of B that are in PAIRS aren't there to move to, nor those of A to be moved. */
    private static void takenInB() {
        LineRemarks x = new LineRemarks();
        taken(x, "a/b/a/b");
        taken(x, "a/b");
        taken(x, "k/a/b/l/a/b/a/b");
        for (int run = 1; run <= 3; run++) {
            x.rule(0, run);
            places(x, "the first two are PAIRS", 0, 1, -1, -1);
            due.due("MOVED", x.matched(0, 1, 1), 0);
            due.due("MOVED, the other way", x.matched(1, 0, 1), 0);
            due.due("PAIRS with more", x.matched(0, 2, 0) * 10 + x.matched(0, 2, 1), 40);
            due.due("PAIRS of more", x.matched(2, 0, 0) * 10 + x.matched(2, 0, 1), 40);
        }
    }

    /** Runs that begin or end A and B. */
    private static void runsAtEnds() {
        LineRemarks x = new LineRemarks();
        taken(x, "m/n/o/a/b");
        taken(x, "a/b/m/n/o");
        places(x, "the end of A, the front of B", 2, 3, 4, 0, 1);
        due.due("MOVED", x.matched(0, 1, 1), 2);
        due.due("the front of A, the end of B", x.place(1, 0, 0) * 10 + x.place(1, 0, 1), 34);
        due.due("MOVED", x.matched(1, 0, 1), 2);
        LineRemarks y = new LineRemarks();
        taken(y, "a/m/n/o/b");
        taken(y, "b/m/n/o/a");
        y.rule(0, 1);
        places(y, "both ends", 4, 1, 2, 3, 0);
        due.due("MOVED", y.matched(0, 1, 1), 2);
    }

    /** Runs that begin in the longer one behind where the shorter one ends. */
    private static void runsBehindTheShorter() {
        LineRemarks x = new LineRemarks();
        taken(x, "a/b/c/k/k/k/k/m/n");
        taken(x, "m/n/a/b/c");
        places(x, "LINE 7 of A, of 5 of B", 2, 3, 4, -1, -1, -1, -1, 0, 1);
        due.due("MOVED", x.matched(0, 1, 1), 2);
        due.due("LINE 7 of B, of 5 of A", x.place(1, 0, 0) * 10 + x.place(1, 0, 1), 78);
        due.due("MOVED, the other way", x.matched(1, 0, 1), 2);
        LineRemarks y = new LineRemarks();
        y.rule(0, 1);
        taken(y, "a/b" + "/k".repeat(21) + "/m");
        taken(y, "m/a/b");
        due.due("LINE 23 of A, of 3 of B", y.place(0, 1, 23), 0);
        due.due("LINE 23 of B, of 3 of A", y.place(1, 0, 0), 23);
        due.due("MOVED", y.matched(0, 1, 1) * 10 + y.matched(1, 0, 1), 11);
    }

    /** THROUGH and ORIGIN along a CHAIN of 16. */
    private static void stepsThrough() {
        LineRemarks x = new LineRemarks();
        for (int r = 0; r < 16; r++) {
            Checks.revise(x, "k/".repeat(r) + "a/b", r - 1);
        }
        for (int r = 0; r < 16; r++) {
            due.due("a on " + r, x.through(0, r, 0), r);
            due.due("b on " + r, x.through(0, r, 1), r + 1);
            due.due("a comes from", x.origin(r, r, 0) * 10 + x.origin(r, r, 1), 0);
            due.due("b comes from", x.origin(r, r + 1, 0) * 10 + x.origin(r, r + 1, 1), 1);
            due.due("the last k is from", x.origin(15, r, 0), r == 15 ? 0 : r + 1);
            due.due("from the last to itself", x.through(15, 15, r), r);
        }
        due.due("not back", x.through(15, 0, 0), -16);
        due.due("nor one step", x.through(1, 0, 0), -16);
    }

    /** THROUGH: NONE as soon as a LINE has no PLACE, though one like it comes later. */
    private static void throughEnds() {
        LineRemarks x = new LineRemarks();
        Checks.revise(x, "a/b", -1);
        Checks.revise(x, "b", 0);
        Checks.revise(x, "a/b", 1);
        Checks.revise(x, "", 2);
        Checks.revise(x, "a/b", 3);
        int[][] places = {{0, 1}, {-1, 0}, {-1, 1}, {-1, -1}, {-1, -1}};
        for (int b = 0; b < 5; b++) {
            for (int i = 0; i < 2; i++) {
                due.due("through to " + b + " of " + i, x.through(0, b, i), places[b][i]);
            }
        }
        due.due("a LINE beside: all are behind themselves", x.through(4, 4, 1), 1);
    }

    /** ORIGIN: the REVISION and LINE at which the way back ends. */
    private static void origins() {
        LineRemarks x = new LineRemarks();
        Checks.revise(x, "a/b", -1);
        Checks.revise(x, "b", 0);
        Checks.revise(x, "a/b", 1);
        Checks.revise(x, "", 2);
        Checks.revise(x, "a/b", 3);
        due.due("b of 2", x.origin(2, 1, 0) * 10 + x.origin(2, 1, 1), 1);
        due.due("a of 2", x.origin(2, 0, 0) * 10 + x.origin(2, 0, 1), 20);
        due.due("a of 4", x.origin(4, 0, 0) * 10 + x.origin(4, 0, 1), 40);
        due.due("b of 4", x.origin(4, 1, 0) * 10 + x.origin(4, 1, 1), 41);
        due.due("b of 1", x.origin(1, 0, 0) * 10 + x.origin(1, 0, 1), 1);
    }
}
