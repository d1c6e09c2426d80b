/** Promises 2 to 8: SHELVES, ROWS, and what a REMARK in a SHELF says. */
public final class ShelvesTest {
    private static final Checks due = new Checks("ShelvesTest");

    public static void main(String[] args) {
        rows();
        elements();
        copies();
        copyRefusals();
        shown();
        said();
        due.end();
    }

    private static void rows() {
        LineRemarks x = new LineRemarks();
        due.due("holds(0), new", x.holds(0), -1);
        due.due("holds(-1)", x.holds(-1), -1);
        due.due("holds(8)", x.holds(8), -1);
        for (int sort = 0; sort < 4; sort++) {
            due.due("row", x.row(sort, sort, 3), 1);
            due.due("holds", x.holds(sort), 100 + sort);
        }
        due.due("row of 0", x.row(7, 0, 0), 1);
        due.due("row of 160", x.row(7, 3, 160), 1);
        due.due("set the last", x.set(7, 159, 9), 1);
        due.due("row no shelf", x.row(8, 9, -1), -1);
        due.due("row no shelf", x.row(-1, 0, 0), -1);
        due.due("row below ahead of sort", x.row(0, 9, -1), -4);
        due.due("row sort", x.row(0, 4, 161), -6);
        due.due("row sort", x.row(0, -1, 0), -6);
        due.due("row room", x.row(0, 1, 161), -7);
        due.due("refused: as it was", x.holds(0), 100);
        due.due("counted -1", x.status(11), 2);
        due.due("counted -4", x.status(14), 1);
        due.due("counted -6", x.status(16), 2);
        due.due("counted -7", x.status(17), 1);
        x.set(0, 0, 5);
        x.row(0, 0, 3);
        due.due("a new row is 0", x.element(0, 0), 0);
    }

    private static void elements() {
        LineRemarks x = new LineRemarks();
        long v = 0x1234_5678_9ABC_DEF0L;
        long[] kept = {(byte) 0xF0, (short) 0xDEF0, 0x9ABC_DEF0, v};
        for (int sort = 0; sort < 4; sort++) {
            x.row(0, sort, 2);
            due.due("set", x.set(0, 1, v), 1);
            due.due("element of sort " + sort, x.element(0, 1), kept[sort]);
            x.set(0, 0, -1);
            due.due("element -1 of sort " + sort, x.element(0, 0), -1);
        }
        due.due("element behind", x.element(0, 2), 0);
        due.due("element ahead", x.element(0, -1), 0);
        due.due("element of nothing", x.element(1, 0), 0);
        due.due("element of no shelf", x.element(8, 0), 0);
        due.due("element of no shelf", x.element(-1, 0), 0);
        due.due("set behind", x.set(0, 2, 1), -5);
        due.due("set ahead", x.set(0, -1, 1), -5);
        due.due("set nothing", x.set(1, 0, 1), -3);
        due.due("set no shelf", x.set(8, 0, 1), -1);
        Checks.revise(x, "a", -1);
        x.remark(0, 0, 0, 0, 0, -1);
        x.show(2, 0);
        due.due("set on a remark", x.set(2, 0, 1), -2);
        due.due("element of a remark", x.element(2, 0), 0);
        due.due("counted", x.status(11) + x.status(12) + x.status(13) + x.status(15), 5);
    }

    private static void copies() {
        LineRemarks x = new LineRemarks();
        Checks.tell(x, 0, 2, 1, 2, 3, 4, 5);
        Checks.tell(x, 1, 2, 9, 9, 9);
        due.due("copy", x.copy(0, 1, 3, 0, 2), 1);
        due.due("copied", x.element(1, 0) * 100 + x.element(1, 1) * 10 + x.element(1, 2), 459);
        due.due("copy onto itself, up", x.copy(0, 0, 0, 1, 4), 1);
        String got = "";
        for (int i = 0; i < 5; i++) {
            got += x.element(0, i);
        }
        due.same("as they were ahead", got, "11234");
        due.due("copy onto itself, down", x.copy(0, 0, 1, 0, 4), 1);
        got = "";
        for (int i = 0; i < 5; i++) {
            got += x.element(0, i);
        }
        due.same("as they were ahead", got, "12344");
        due.due("copy of none at the end", x.copy(0, 1, 5, 3, 0), 1);
    }

    private static void copyRefusals() {
        LineRemarks x = new LineRemarks();
        Checks.tell(x, 0, 2, 1, 2, 3, 4, 5);
        Checks.tell(x, 1, 2, 9, 9, 9);
        x.row(2, 1, 5);
        Checks.revise(x, "a", -1);
        x.remark(0, 0, 0, 0, 0, -1);
        x.show(3, 0);
        due.due("no shelf", x.copy(8, 3, 0, 0, -1), -1);
        due.due("no shelf", x.copy(3, -1, 0, 0, -1), -1);
        due.due("a remark", x.copy(3, 0, 0, 0, -1), -2);
        due.due("a remark, the other nothing", x.copy(4, 3, 0, 0, -1), -2);
        due.due("two sorts", x.copy(0, 2, 0, 0, -1), -2);
        due.due("nothing from", x.copy(4, 2, 0, 0, -1), -3);
        due.due("nothing to", x.copy(2, 4, 0, 0, -1), -3);
        due.due("below", x.copy(0, 1, -1, 0, -1), -4);
        due.due("i below", x.copy(0, 1, -1, 0, 1), -5);
        due.due("j below", x.copy(0, 1, 0, -1, 1), -5);
        due.due("end of the first", x.copy(0, 1, 4, 0, 2), -5);
        due.due("end of the second", x.copy(0, 1, 0, 2, 2), -5);
        due.due("none, but no such end", x.copy(0, 1, 6, 0, 0), -5);
        due.due("none, but no such end", x.copy(0, 1, 0, 4, 0), -5);
        due.due("very many", x.copy(0, 1, 1, 1, Integer.MAX_VALUE), -5);
        due.due("very far", x.copy(0, 1, Integer.MAX_VALUE, 1, 1), -5);
        due.due("as it was", x.element(1, 0) + x.element(1, 1) + x.element(1, 2), 27);
        int[] counts = {2, 3, 2, 1, 8};
        for (int k = 0; k < counts.length; k++) {
            due.due("counted " + k, x.status(11 + k), counts[k]);
        }
    }

    private static void shown() {
        LineRemarks x = new LineRemarks();
        due.due("show nothing", x.show(0, -1), 0);
        due.due("show no remark", x.show(0, 0), -1);
        due.due("show no shelf", x.show(8, -1), -1);
        due.due("show no shelf", x.show(-1, -1), -1);
        due.due("show -2", x.show(0, -2), -1);
        Checks.revise(x, "a/b/c/d", -1);
        x.remark(0, 0, 0, 0, 0, -1);
        x.remark(1, 0, 0, 0, 0, -1);
        due.due("show", x.show(0, 1), 1);
        due.due("holds", x.holds(0), 1);
        due.due("show in place of a row", x.show(7, 0), 1);
        due.due("holds", x.holds(7), 0);
        due.due("show refused", x.show(0, 2), -1);
        due.due("holds as it did", x.holds(0), 1);
        due.due("show nothing", x.show(0, -1), 0);
        due.due("holds nothing", x.holds(0), -1);
        due.due("a row again", x.row(7, 2, 1), 1);
        due.due("holds it", x.holds(7), 102);
    }

    private static void said() {
        LineRemarks x = new LineRemarks();
        Checks.revise(x, "a/b/c/d", -1);
        Checks.revise(x, "a/b/c/d/e/f/g/h", 0);
        for (int kind = 0; kind < 7; kind++) {
            x.remark(kind, 9 - kind, 1, kind, 7, -1);
        }
        // By KIND of the REMARK: what it says for one of KIND 0 to 6; -2 if it isn't under that.
        int[][] words = {
            {0, -2, -2, -2, -2, -2, -2},
            {1, 8, -2, -2, -2, -2, -2},
            {2, -2, 6, -2, -2, -2, -2},
            {3, 6, -2, 6, -2, -2, -2},
            {4, -2, -2, -2, 7, -2, -2},
            {5, -2, 3, -2, -2, 3, -2},
            {6, 3, -2, 3, -2, -2, 1},
        };
        int others = 0;
        for (int m = 0; m < 7; m++) {
            x.show(0, m);
            for (int kind = 0; kind < 7; kind++) {
                due.due("remark " + m + " says as " + kind, x.says(0, kind), words[m][kind]);
                others += words[m][kind] == -2 ? 1 : 0;
            }
        }
        due.due("counted -2", x.status(12), others);
        due.due("no kind", x.says(0, 7), -1);
        due.due("no kind", x.says(0, -1), -1);
        due.due("no shelf", x.says(8, 0), -1);
        due.due("a row", x.says(7, 0), -2);
        due.due("nothing", x.says(1, 0), -3);
    }
}
