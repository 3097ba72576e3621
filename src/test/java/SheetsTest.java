/** Promises 33 to 39: spots and sheets. */
public final class SheetsTest {
    public static void main(String[] args) {
        holdAndAs();
        asByKind();
        sheet();
        write();
        copy();
        copyFindings();
        load();
        judge();
        Due.end("SheetsTest");
    }

    private static void holdAndAs() {
        ToastCourt x = new ToastCourt();
        Due.due("33: hold(0, -1)", x.hold(0, -1), 1);
        Due.finds(x, "33: hold(0, 0) of nobody", () -> x.hold(0, 0), Due.BEYOND);
        x.disputant(0, 1);
        x.disputant(2, 1);
        Due.due("33: hold(0, 0)", x.hold(0, 0), 1);
        Due.due("33: hold(9, 1)", x.hold(9, 1), 1);
        Due.due("34: as(0, 0)", x.as(0, 0), 0);
        Due.due("34: as(9, 2)", x.as(9, 2), 1);
        Due.due("33: count(7)", x.count(7), 2);
        Due.due("33: hold(9, 0)", x.hold(9, 0), 1);
        Due.due("34: as(9, 0)", x.as(9, 0), 0);
        int[][] bad = {{-1, 0}, {10, 0}, {-1, -1}, {10, -1}, {0, 2}, {0, -2}, {0, 8}, {0, Integer.MIN_VALUE}};
        for (int[] b : bad) {
            Due.finds(x, "33: hold(" + b[0] + ", " + b[1] + ")", () -> x.hold(b[0], b[1]), Due.BEYOND);
        }
        Due.due("33: hold(9, -1)", x.hold(9, -1), 1);
        Due.finds(x, "34: as(9, 0) of nothing", () -> x.as(9, 0), Due.MISSING);
        Due.finds(x, "34: as(8, 6) of nothing", () -> x.as(8, 6), Due.MISSING);
        int[][] beyond = {{-1, 0}, {10, 0}, {0, -1}, {0, 7}, {9, 7}, {9, -1}};
        for (int[] b : beyond) {
            Due.finds(x, "34: as(" + b[0] + ", " + b[1] + ")", () -> x.as(b[0], b[1]), Due.BEYOND);
        }
        Due.finds(x, "34: as(0, 1)", () -> x.as(0, 1), Due.KIND);
        x.change(0, 0, 6);
        Due.due("34: as(0, 1) of a twin now", x.as(0, 1), 0);
    }

    private static void asByKind() {
        // Of each kind, all that it is.
        int[] is = {1, 1 + 2, 1 + 4, 1 + 4 + 8, 1 + 4 + 8 + 16, 1 + 32, 1 + 2 + 64};
        for (int kind = 0; kind < 7; kind++) {
            ToastCourt x = new ToastCourt();
            x.disputant(0, 0);
            x.disputant(kind, 0);
            x.hold(4, 1);
            for (int asked = 0; asked < 7; asked++) {
                Due.due("34: as(4, " + asked + ") of kind " + kind, x.as(4, asked),
                    (is[kind] >> asked & 1) == 1 ? 1 : Due.KIND);
            }
        }
    }

    private static void sheet() {
        ToastCourt x = new ToastCourt();
        x.disputant(0, 7);
        for (int bits : new int[] {8, 16, 32}) {
            Due.due("35: sheet(3, " + bits + ", 40)", x.sheet(3, bits, 40), 40);
            Due.due("35: sheet(0, " + bits + ", 0)", x.sheet(0, bits, 0), 0);
            Due.due("35: load(0)", x.load(0), 0);
        }
        x.write(3, 0, 55);
        Due.due("35: sheet(3, 8, 2)", x.sheet(3, 8, 2), 2);
        Due.due("35: all 0: load(3)", x.load(3), 1);
        Due.due("35: CAUSE is 0", x.of(0, 1), 0);
        Due.due("35: only two", x.write(3, 2, 0), Due.BEYOND);
        Due.due("35: sheet(3, 0, 9)", x.sheet(3, 0, 9), 0);
        Due.due("35: it is MISSING", x.load(3), Due.MISSING);
        Due.due("35: sheet(3, 0, 0), once more", x.sheet(3, 0, 0), 0);
        int[][] bad = {{-1, 8, 0}, {4, 8, 0}, {0, 1, 0}, {0, 64, 0}, {0, -8, 0}, {0, 24, 0}, {0, 7, -1}, {4, 8, -1},
            {0, 8, 41}, {0, 16, 41}, {0, 32, Integer.MAX_VALUE}, {0, 0, 41}};
        for (int[] b : bad) {
            Due.finds(x, "35: sheet(" + b[0] + ", " + b[1] + ", " + b[2] + ")",
                () -> x.sheet(b[0], b[1], b[2]), Due.BEYOND);
        }
        for (int bits : new int[] {0, 8, 16, 32}) {
            Due.finds(x, "35: sheet(0, " + bits + ", -1)", () -> x.sheet(0, bits, -1), Due.SIZE);
            Due.finds(x, "35: sheet(0, " + bits + ", least)", () -> x.sheet(0, bits, Integer.MIN_VALUE), Due.SIZE);
        }
        Due.due("35: what a finding answered has not changed it", x.load(0), 0);
    }

    private static void write() {
        ToastCourt x = new ToastCourt();
        x.disputant(0, 7);
        int[] bits = {8, 16, 32};
        int[] wrap = {256, 65536, 0};
        for (int s = 0; s < 3; s++) {
            x.sheet(s, bits[s], 1);
            Due.due("36: write(" + s + ", 0, 88)", x.write(s, 0, wrap[s] + 88), 1);
            Due.due("36: load(" + s + ")", x.load(s), 1);
            Due.due("36: CAUSE by " + s, x.of(0, 1), 88);
            x.write(s, 0, wrap[s] * 3 + 12 - wrap[s] * 7);
            Due.due("36: load(" + s + ") of a lower one", x.load(s), 1);
            Due.due("36: CAUSE by " + s, x.of(0, 1), 12);
        }
        // Wider numbers are not cut.
        x.write(1, 0, 256);
        Due.due("36: 256 in 16 bits", x.load(1), 0);
        x.write(2, 0, 65536);
        Due.due("36: 65536 in 32 bits", x.load(2), 0);
        x.change(0, 3, 200);
        x.write(1, 0, 200);
        Due.due("36: 200 in 16 bits", x.judge(1), 0);
        x.write(0, 0, 200);
        Due.due("36: 200 in 8 bits has a sign", x.judge(0), 1);
        x.sheet(2, 32, 2);
        int[][] bad = {{-1, 0}, {4, 0}, {2, -1}, {2, 2}, {2, 40}, {2, Integer.MAX_VALUE}, {2, Integer.MIN_VALUE}};
        for (int[] b : bad) {
            Due.finds(x, "36: write(" + b[0] + ", " + b[1] + ", 1)", () -> x.write(b[0], b[1], 1), Due.BEYOND);
        }
        Due.finds(x, "36: write(3, 0, 1)", () -> x.write(3, 0, 1), Due.MISSING);
        Due.finds(x, "36: write(3, -1, 1)", () -> x.write(3, -1, 1), Due.MISSING);
        x.sheet(2, 32, 0);
        Due.finds(x, "36: write(2, 0, 1) of none", () -> x.write(2, 0, 1), Due.BEYOND);
    }

    /** Reads a sheet of at most eight by loading it as CAUSES. */
    private static String read(ToastCourt x, int s) {
        int came = x.load(s);
        StringBuilder row = new StringBuilder();
        for (int d = 0; d < came; d++) {
            row.append(x.of(d, 1)).append(' ');
        }
        return row.toString().trim();
    }

    private static void reads(ToastCourt x, int s, String want, String when) {
        String got = read(x, s);
        if (!got.equals(want)) {
            System.out.println(when + ": sheet " + s + " has " + got);
        }
        Due.due(when, got.equals(want) ? 1 : 0, 1);
    }

    private static ToastCourt rows() {
        ToastCourt x = new ToastCourt();
        for (int d = 0; d < 8; d++) {
            x.disputant(0, 0);
        }
        x.sheet(0, 8, 6);
        x.sheet(1, 8, 4);
        x.sheet(2, 16, 6);
        for (int i = 0; i < 6; i++) {
            x.write(0, i, i + 1);
        }
        return x;
    }

    private static void copy() {
        ToastCourt x = rows();
        Due.due("37: copy(0, 1, 1, 2, 2)", x.copy(0, 1, 1, 2, 2), 2);
        reads(x, 1, "0 0 2 3", "37: to another");
        reads(x, 0, "1 2 3 4 5 6", "37: from which");
        Due.due("37: copy(0, 0, 0, 2, 4)", x.copy(0, 0, 0, 2, 4), 4);
        reads(x, 0, "1 2 1 2 3 4", "37: over itself, up");
        Due.due("37: copy(0, 1, 0, 0, 5)", x.copy(0, 1, 0, 0, 5), 5);
        reads(x, 0, "2 1 2 3 4 4", "37: over itself, down");
        Due.due("37: copy(0, 6, 1, 4, 0)", x.copy(0, 6, 1, 4, 0), 0);
        Due.due("37: copy(0, 0, 1, 0, 4)", x.copy(0, 0, 1, 0, 4), 4);
        reads(x, 1, "2 1 2 3", "37: all of it");
        Due.due("37: copy(1, 0, 1, 0, 4)", x.copy(1, 0, 1, 0, 4), 4);
        reads(x, 1, "2 1 2 3", "37: onto itself");
    }

    private static void copyFindings() {
        ToastCourt x = rows();
        int most = Integer.MAX_VALUE;
        int[][] beyond = {{-1, 0, 0, 0, 0}, {4, 0, 0, 0, 0}, {0, 0, -1, 0, 0}, {0, 0, 4, 0, 0}, {3, 0, 4, 0, 0},
            {4, 0, 3, 0, 0}, {0, -1, 1, 0, 1}, {0, 0, 1, -1, 1}, {0, 0, 1, 0, -1}, {0, 0, 1, 0, 5}, {1, 0, 0, 0, 5},
            {0, 3, 1, 0, 4}, {0, 0, 1, 1, 4}, {0, 7, 1, 0, 0}, {0, 0, 1, 5, 0}, {0, most, 1, 0, 1},
            {0, 0, 1, most, 1}, {0, 1, 1, 1, most}, {0, most, 1, most, most}, {0, Integer.MIN_VALUE, 1, 0, 1},
            {0, 0, 1, 0, Integer.MIN_VALUE}};
        int[][] missing = {{3, 0, 0, 0, 0}, {0, 0, 3, 0, 0}, {3, 0, 3, 0, 0}, {3, -1, 2, 0, 99}};
        int[][] kind = {{0, 0, 2, 0, 1}, {2, 0, 0, 0, 1}, {2, -1, 0, -1, 99}, {0, 0, 2, 0, 0}};
        finds(x, beyond, Due.BEYOND);
        finds(x, missing, Due.MISSING);
        finds(x, kind, Due.KIND);
        reads(x, 0, "1 2 3 4 5 6", "37: nothing came");
        reads(x, 1, "0 0 0 0", "37: nothing came");
    }

    private static void finds(ToastCourt x, int[][] rows, int finding) {
        for (int[] b : rows) {
            Due.finds(x, "37: copy(" + b[0] + ", " + b[1] + ", " + b[2] + ", " + b[3] + ", " + b[4] + ")",
                () -> x.copy(b[0], b[1], b[2], b[3], b[4]), finding);
        }
    }

    private static void load() {
        ToastCourt x = new ToastCourt();
        for (int d = 0; d < 3; d++) {
            x.disputant(d, 50);
        }
        x.sheet(1, 32, 5);
        int[] row = {0, 99, 5, 6, 7};
        for (int i = 0; i < 5; i++) {
            x.write(1, i, row[i]);
        }
        Due.due("38: load(1) ends where there is no such one", x.load(1), 3);
        Due.due("38: CAUSE of 0", x.of(0, 1), 0);
        Due.due("38: CAUSE of 1", x.of(1, 1), 99);
        Due.due("38: CAUSE of 2", x.of(2, 1), 5);
        Due.due("38: nobody came", x.count(1), 3);
        for (int v : new int[] {100, -1, Integer.MAX_VALUE, Integer.MIN_VALUE}) {
            x.change(0, 1, 50);
            x.change(2, 1, 50);
            x.write(1, 0, 11);
            x.write(1, 1, v);
            Due.due("38: load(1) ends at " + v, x.load(1), 1);
            Due.due("38: CAUSE ahead of " + v, x.of(0, 1), 11);
            Due.due("38: CAUSE at " + v, x.of(1, 1), 99);
            Due.due("38: CAUSE behind " + v, x.of(2, 1), 50);
        }
        x.write(1, 0, 100);
        Due.due("38: load(1) ends at once", x.load(1), 0);
        x.sheet(2, 8, 2);
        Due.due("38: load(2) of two", x.load(2), 2);
        Due.due("38: CAUSE of 2 stays", x.of(2, 1), 50);
        Due.due("38: no finding", x.status(-1), 0);
        Due.finds(x, "38: load(-1)", () -> x.load(-1), Due.BEYOND);
        Due.finds(x, "38: load(4)", () -> x.load(4), Due.BEYOND);
        Due.finds(x, "38: load(0)", () -> x.load(0), Due.MISSING);
    }

    private static void judge() {
        ToastCourt x = new ToastCourt();
        x.sheet(1, 32, 1);
        Due.due("39: judge(1) where there is nobody", x.judge(1), 1);
        x.sheet(1, 32, 3);
        for (int d = 0; d < 3; d++) {
            x.disputant(d, 50);
        }
        Due.due("39: judge(1) of 0, 0, 0", x.judge(1), 0);
        x.change(2, 3, 9999);
        Due.due("39: judge(1), the last isn't so", x.judge(1), 3);
        x.write(1, 2, 9999);
        Due.due("39: judge(1), the last is so", x.judge(1), 0);
        x.change(0, 3, 1);
        x.change(1, 3, 1);
        Due.due("39: judge(1), the first isn't so", x.judge(1), 1);
        x.write(1, 0, 1);
        Due.due("39: judge(1), the second isn't so", x.judge(1), 2);
        x.write(1, 1, -1);
        Due.due("39: judge(1), -1 is no WRONG", x.judge(1), 2);
        x.sheet(2, 8, 0);
        Due.due("39: judge(2) of none", x.judge(2), 0);
        x.sheet(2, 8, 1);
        x.write(2, 0, 1);
        Due.due("39: judge(2) of fewer", x.judge(2), 0);
        x.sheet(2, 8, 4);
        x.change(0, 3, 0);
        x.change(1, 3, 0);
        x.change(2, 3, 0);
        Due.due("39: judge(2) of one more", x.judge(2), 4);
        Due.due("39: no finding", x.status(-1), 0);
        Due.finds(x, "39: judge(-1)", () -> x.judge(-1), Due.BEYOND);
        Due.finds(x, "39: judge(4)", () -> x.judge(4), Due.BEYOND);
        Due.finds(x, "39: judge(0)", () -> x.judge(0), Due.MISSING);
    }
}
