/** The least and the greatest that SHELVES and ROWS take, empty and full ones, bits that are cut off. */
public final class ShelfLimitsTest {
    private static final Checks due = new Checks("ShelfLimitsTest");
    private static final int MOST = 160;

    public static void main(String[] args) {
        firstAndLastShelf();
        emptyRow();
        fullRow();
        zeroAtFirst();
        lowestBits();
        readAsInts();
        copyOfAll();
        copyOfNone();
        copyOntoItself();
        copyEachSort();
        showFirstAndLast();
        shownInPlaceOfRow();
        saysLeastAndMost();
        saysAsMade();
        due.end();
    }

    /** "SHELVES 0 to 7": each stands by itself. */
    private static void firstAndLastShelf() {
        LineRemarks x = new LineRemarks();
        for (int s = 0; s < 8; s++) {
            due.due("row in " + s, x.row(s, 0, 1), 1);
            due.due("set in " + s, x.set(s, 0, 'a' + s), 1);
            due.due("the next holds NOTHING yet", x.holds(s + 1), -1);
        }
        for (int s = 0; s < 8; s++) {
            due.due("element of " + s, x.element(s, 0), 'a' + s);
            due.due("revise by " + s, x.revise(s, -1), s);
            due.due("letter", x.letter(s, 0, 0), 'a' + s);
        }
        due.due("copy first to last", x.copy(0, 7, 0, 0, 1), 1);
        due.due("element", x.element(7, 0), 'a');
        due.due("copy last to first", x.copy(6, 0, 0, 0, 1), 1);
        due.due("element", x.element(0, 0), 'g');
        x.remark(0, 0, 0, 0, 0, -1);
        for (int s = 0; s < 8; s++) {
            Checks.tell(x, s, 0, 0);
            due.due("judge by " + s, x.judge(s, 0, 0), -1);
            due.due("show in " + s, x.show(s, 0), 1);
            due.due("holds", x.holds(s), 0);
            due.due("says", x.says(s, 0), 0);
            due.due("the next holds its ROW yet", x.holds(s + 1), s < 7 ? 100 : -1);
        }
        for (int what = 11; what < 18; what++) {
            due.due("nothing was refused", x.status(what), 0);
        }
    }

    /** "0 .. elements": it is a ROW, and nothing is in it. */
    private static void emptyRow() {
        LineRemarks x = new LineRemarks();
        for (int sort = 0; sort < 4; sort++) {
            due.due("row of 0", x.row(sort, sort, 0), 1);
            due.due("holds", x.holds(sort), 100 + sort);
            due.due("no element", x.element(sort, 0), 0);
            due.due("a text without LINES", x.revise(sort, -1), sort);
            due.due("lines", x.lines(sort), 0);
            due.due("no FAULT", x.fault(), -1);
            due.due("none to set", x.set(sort, 0, 1), -5);
            due.due("a ROW says nothing", x.says(sort, 0), -2);
        }
    }

    /** "to 160 elements": the last is there, and one behind isn't. */
    private static void fullRow() {
        for (int sort = 0; sort < 4; sort++) {
            LineRemarks x = new LineRemarks();
            due.due("row of 160", x.row(0, sort, MOST), 1);
            for (int i = 0; i < MOST; i++) {
                due.due("set " + i, x.set(0, i, i - 80), 1);
            }
            due.due("set 160", x.set(0, MOST, 1), -5);
            for (int i = 0; i < MOST; i++) {
                due.due("element " + i, x.element(0, i), i - 80);
            }
            due.due("element 160", x.element(0, MOST), 0);
            due.due("none beside the ROW was set", x.holds(1), -1);
        }
        LineRemarks x = new LineRemarks();
        due.due("row of 159", x.row(0, 0, 159), 1);
        due.due("its last", x.set(0, 158, 1), 1);
        due.due("one behind", x.set(0, 159, 1), -5);
    }

    /** "0 at first": all of it, though the SHELF held another ROW ahead. */
    private static void zeroAtFirst() {
        LineRemarks x = new LineRemarks();
        x.row(0, 3, MOST);
        for (int i = 0; i < MOST; i++) {
            x.set(0, i, -1);
        }
        x.row(0, 3, 1);
        due.due("smaller", x.element(0, 0), 0);
        due.due("what was behind isn't there", x.element(0, 1), 0);
        x.row(0, 3, MOST);
        for (int i = 0; i < MOST; i++) {
            due.due("again " + i, x.element(0, i), 0);
        }
    }

    /** "what is put in keeps its lowest bits": numbers that wrap around. */
    private static void lowestBits() {
        long[] put = {127, 128, 255, 256, -128, -129, 32767, 32768, 65535, 65536, -32768, -32769,
            Integer.MAX_VALUE, 1L << 31, -(1L << 31), -(1L << 31) - 1, (1L << 32) - 1, 1L << 32,
            Long.MAX_VALUE, Long.MIN_VALUE};
        long[] bytes = {127, -128, -1, 0, -128, 127, -1, 0, -1, 0, 0, -1, -1, 0, 0, -1, -1, 0, -1, 0};
        long[] shorts = {127, 128, 255, 256, -128, -129, 32767, -32768, -1, 0, -32768, 32767,
            -1, 0, 0, -1, -1, 0, -1, 0};
        long[] ints = {127, 128, 255, 256, -128, -129, 32767, 32768, 65535, 65536, -32768, -32769,
            2147483647, -2147483648, -2147483648, 2147483647, -1, 0, -1, 0};
        long[][] kept = {bytes, shorts, ints, put};
        LineRemarks x = new LineRemarks();
        for (int sort = 0; sort < 4; sort++) {
            x.row(sort, sort, 2);
            for (int k = 0; k < put.length; k++) {
                due.due("set", x.set(sort, 1, put[k]), 1);
                due.due("SORT " + sort + " of " + put[k], x.element(sort, 1), kept[sort][k]);
            }
            due.due("the other stays", x.element(sort, 0), 0);
        }
    }

    /** "All is read as ints (of longs the lowest 32 bits)": by revise and judge. */
    private static void readAsInts() {
        LineRemarks x = new LineRemarks();
        x.row(0, 3, 3);
        x.set(0, 0, 'a' + (1L << 32));
        x.set(0, 1, '/' - (1L << 32));
        x.set(0, 2, 'b' + (1L << 63));
        due.due("longs by their lowest bits", x.revise(0, -1), 0);
        due.same("text", Checks.text(x, 0), "a/b");
        x.set(0, 1, '/' + (1L << 31));
        due.due("bit 31 is one of them", x.revise(0, -1), -6);
        due.due("fault", x.fault(), 1);
        x.row(0, 2, 1);
        x.set(0, 0, 'a' + 256);
        due.due("ints aren't read as bytes", x.revise(0, -1), -6);
        x.set(0, 0, 'a' + 65536);
        due.due("nor as shorts", x.revise(0, -1), -6);
        x.row(0, 0, 1);
        x.set(0, 0, 'a' - 256);
        due.due("bytes keep their lowest bits", x.revise(0, -1), 1);
        x.row(0, 1, 1);
        x.set(0, 0, 'a' + 65536);
        due.due("shorts keep their lowest bits", x.revise(0, -1), 2);
        x.remark(0, 0, 0, 1, 1, -1);
        x.row(1, 3, 1);
        x.set(1, 0, (1L << 32) + 1);
        due.due("a WALK of longs", x.judge(1, 0, 0), -1);
        x.set(1, 0, (1L << 31) + 1);
        due.due("bit 31 is one of them", x.judge(1, 0, 0), 0);
        x.row(1, 0, 1);
        x.set(1, 0, 257);
        due.due("a WALK of bytes", x.judge(1, 0, 0), -1);
        x.row(1, 1, 1);
        x.set(1, 0, 257);
        due.due("shorts aren't read as bytes", x.judge(1, 0, 0), 0);
    }

    private static void copyOfAll() {
        LineRemarks x = new LineRemarks();
        x.row(0, 1, MOST);
        x.row(7, 1, MOST);
        for (int i = 0; i < MOST; i++) {
            x.set(0, i, i + 1000);
        }
        due.due("copy of 160", x.copy(0, 7, 0, 0, MOST), 1);
        for (int i = 0; i < MOST; i++) {
            due.due("element " + i, x.element(7, i), i + 1000);
        }
        due.due("copy of 161", x.copy(0, 7, 0, 0, MOST + 1), -5);
        due.due("the last to the first", x.copy(0, 7, 159, 0, 1), 1);
        due.due("element", x.element(7, 0), 1159);
        due.due("the first to the last", x.copy(0, 7, 0, 159, 1), 1);
        due.due("element", x.element(7, 159), 1000);
        due.due("two from the last", x.copy(0, 7, 159, 0, 2), -5);
        due.due("two to the last", x.copy(0, 7, 0, 159, 2), -5);
    }

    /** n 0: taken from any place to just behind the end, and nothing comes. */
    private static void copyOfNone() {
        LineRemarks x = new LineRemarks();
        Checks.tell(x, 0, 2, 1, 2, 3);
        Checks.tell(x, 1, 2, 7);
        x.row(2, 2, 0);
        due.due("none", x.copy(0, 1, 0, 0, 0), 1);
        due.due("none from the end", x.copy(0, 1, 3, 0, 0), 1);
        due.due("none to the end", x.copy(0, 1, 0, 1, 0), 1);
        due.due("none behind the end", x.copy(0, 1, 4, 0, 0), -5);
        due.due("none to behind the end", x.copy(0, 1, 0, 2, 0), -5);
        due.due("none of an empty ROW", x.copy(2, 2, 0, 0, 0), 1);
        due.due("none from an empty ROW", x.copy(2, 1, 0, 1, 0), 1);
        due.due("none behind an empty ROW", x.copy(2, 1, 1, 0, 0), -5);
        due.due("as it was", x.element(1, 0), 7);
        due.due("none of a full one's end", x.row(3, 2, MOST) + x.copy(3, 0, MOST, 3, 0), 2);
    }

    /** "(as they were ahead)": both ways, and by more than one element. */
    private static void copyOntoItself() {
        int[][] moves = {{0, 2, 6}, {2, 0, 6}, {0, 1, 7}, {1, 0, 7}, {0, 0, 8}, {3, 4, 4}, {5, 2, 3}};
        for (int[] move : moves) {
            LineRemarks x = new LineRemarks();
            Checks.tell(x, 0, 0, 0, 1, 2, 3, 4, 5, 6, 7);
            int[] want = {0, 1, 2, 3, 4, 5, 6, 7};
            System.arraycopy(want, move[0], want, move[1], move[2]);
            due.due("copy onto itself", x.copy(0, 0, move[0], move[1], move[2]), 1);
            for (int i = 0; i < 8; i++) {
                due.due("element " + i + " by " + java.util.Arrays.toString(move), x.element(0, i), want[i]);
            }
        }
    }

    private static void copyEachSort() {
        long v = 0x8182_8384_8586_8788L;
        long[] kept = {(byte) v, (short) v, (int) v, v};
        for (int sort = 0; sort < 4; sort++) {
            LineRemarks x = new LineRemarks();
            x.row(0, sort, 2);
            x.row(1, sort, 3);
            x.set(0, 1, v);
            due.due("copy", x.copy(0, 1, 0, 1, 2), 1);
            due.due("ahead", x.element(1, 0), 0);
            due.due("first", x.element(1, 1), 0);
            due.due("second, whole", x.element(1, 2), kept[sort]);
            due.due("p stays", x.element(0, 1), kept[sort]);
            due.due("size stays", x.set(1, 2, 0) + x.set(1, 3, 0), 1 - 5);
        }
    }

    private static void showFirstAndLast() {
        LineRemarks x = new LineRemarks();
        Checks.revise(x, "a", -1);
        for (int m = 0; m < 16; m++) {
            due.due("not yet " + m, x.show(0, m), -1);
            x.remark(0, 0, 0, 0, 0, -1);
            due.due("show " + m, x.show(0, m), 1);
            due.due("holds " + m, x.holds(0), m);
        }
        due.due("show 16", x.show(0, 16), -1);
        due.due("holds", x.holds(0), 15);
        due.due("show the first", x.show(0, 0), 1);
        due.due("REMARK 0 isn't NOTHING", x.holds(0), 0);
        due.due("a REMARK, so no ROW", x.set(0, 0, 0), -2);
        due.due("NOTHING", x.show(0, -1), 0);
        due.due("holds", x.holds(0), -1);
        due.due("NOTHING, so no ROW", x.set(0, 0, 0), -3);
        due.due("NOTHING again", x.show(0, -1), 0);
    }

    /** A SHELF holds one of the three alone. */
    private static void shownInPlaceOfRow() {
        LineRemarks x = new LineRemarks();
        Checks.revise(x, "a", -1);
        x.remark(0, 0, 0, 0, 0, -1);
        Checks.tell(x, 0, 2, 5, 6);
        due.due("NOTHING in place of a ROW", x.show(0, -1), 0);
        due.due("holds", x.holds(0), -1);
        due.due("no element", x.element(0, 0), 0);
        due.due("NOTHING to read", x.revise(0, -1), -3);
        Checks.tell(x, 0, 2, 5, 6);
        due.due("a REMARK in place of a ROW", x.show(0, 0), 1);
        due.due("no element", x.element(0, 0), 0);
        due.due("a ROW in place of a REMARK", x.row(0, 1, 2), 1);
        due.due("holds", x.holds(0), 101);
        due.due("0 at first", x.element(0, 0) + x.element(0, 1), 0);
        due.due("the REMARK is there yet", x.status(1), 1);
    }

    /** The least and the greatest that each KIND says. */
    private static void saysLeastAndMost() {
        LineRemarks x = new LineRemarks();
        String text = "a" + "/b".repeat(23);
        for (int r = 0; r < 4; r++) {
            Checks.revise(x, text, -1);
        }
        for (int kind = 0; kind < 7; kind++) {
            x.remark(kind, 0, 0, 0, 0, -1);
            x.remark(kind, 9, 3, 0, 23, -1);
        }
        x.remark(0, 9, 3, 23, 23, -1);
        x.remark(4, 9, 3, 23, 23, -1);
        int[] least = {0, 0, 1, 0, 0, 1, 0};
        int[] most = {0, 9, 24, 9, 23, 24, 3};
        for (int kind = 0; kind < 7; kind++) {
            x.show(0, 2 * kind);
            x.show(7, 2 * kind + 1);
            due.due("least of " + kind, x.says(0, kind), least[kind]);
            due.due("most of " + kind, x.says(7, kind), most[kind]);
        }
        x.show(0, 14);
        due.due("the greatest p", x.says(0, 0), 23);
        x.show(0, 15);
        due.due("the greatest q", x.says(0, 4), 23);
        due.due("its p", x.says(0, 0), 23);
    }

    /** "(all as it is made)": not as it is PUT on a later REVISION. */
    private static void saysAsMade() {
        LineRemarks x = new LineRemarks();
        Checks.revise(x, "a/b/c", -1);
        Checks.revise(x, "k/k/a/k/b/c/k", 0);
        for (int kind = 0; kind < 7; kind++) {
            x.remark(kind, 3, 0, 0, 1, -1);
        }
        int[] made = {0, 3, 2, 3, 1, 2, 0};
        for (int kind = 0; kind < 7; kind++) {
            x.show(0, kind);
            x.put(kind, 1, 0);
            due.due("KIND " + kind, x.says(0, kind), made[kind]);
            due.due("KIND " + kind + " as REMARK", x.says(0, 0), 0);
        }
    }
}
