/** Promises 1 to 10: a new object, the court, the list, the disputants. */
public final class CourtTest {
    public static void main(String[] args) {
        newObject();
        set();
        court();
        disputeAndListed();
        disputant();
        of();
        ofByKind();
        change();
        turning();
        falls();
        Due.end("CourtTest");
    }

    private static void newObject() {
        ToastCourt x = new ToastCourt();
        Due.due("1: HEIGHT", x.court(0), 12);
        Due.due("1: SPREAD", x.court(1), 3);
        Due.due("1: EDGES", x.court(2), 0);
        for (int i = 0; i < 6; i++) {
            Due.due("1: listed(" + i + ")", x.listed(i), 1);
        }
        int[] counts = {0, 0, 0, 0, 0, 0, 1, 0};
        for (int what = 0; what < 8; what++) {
            Due.due("1: count(" + what + ")", x.count(what), counts[what]);
        }
        for (int which = -1; which < 7; which++) {
            Due.due("1: status(" + which + ")", x.status(which), 0);
        }
        for (int s = 0; s < 4; s++) {
            Due.due("1: load(" + s + ")", x.load(s), Due.MISSING);
        }
        for (int spot = 0; spot < 10; spot++) {
            Due.due("1: as(" + spot + ", 0)", x.as(spot, 0), Due.MISSING);
        }
        Due.due("1: undo()", x.undo(), Due.NONE);
        Due.due("1: tear()", x.tear(), 0);
        Due.due("1: wipe()", x.wipe(), 0);
    }

    private static void set() {
        ToastCourt x = new ToastCourt();
        Due.due("2: set(0, 60)", x.set(0, 60), 12);
        Due.due("2: set(0, 1)", x.set(0, 1), 60);
        Due.due("2: court(0)", x.court(0), 1);
        Due.due("2: set(1, 9)", x.set(1, 9), 3);
        Due.due("2: set(1, 0)", x.set(1, 0), 9);
        Due.due("2: court(1)", x.court(1), 0);
        Due.due("2: court(0) still", x.court(0), 1);
        int[][] bad = {{0, 0}, {0, 61}, {0, -1}, {1, -1}, {1, 10}, {2, 0}, {2, 5}, {-1, 5},
            {0, Integer.MIN_VALUE}, {0, Integer.MAX_VALUE}, {Integer.MAX_VALUE, 1}};
        for (int[] b : bad) {
            Due.finds(x, "2: set(" + b[0] + ", " + b[1] + ")", () -> x.set(b[0], b[1]), Due.BEYOND);
        }
    }

    private static void court() {
        ToastCourt x = new ToastCourt();
        // Two lawyers give no jolts, and 13 turns stand on the edge.
        x.disputant(2, 1);
        x.disputant(2, 2);
        x.set(0, 13);
        x.go(2);
        Due.due("3: court(0)", x.court(0), 13);
        Due.due("3: court(1)", x.court(1), 3);
        Due.due("3: court(2)", x.court(2), 2);
        for (int what : new int[] {-1, 3, Integer.MAX_VALUE, Integer.MIN_VALUE}) {
            Due.finds(x, "3: court(" + what + ")", () -> x.court(what), Due.BEYOND);
        }
    }

    private static void disputeAndListed() {
        ToastCourt x = new ToastCourt();
        Due.due("4: dispute(0, 7, 3)", x.dispute(0, 7, 3), 1);
        Due.due("4: dispute(0, 0, 0)", x.dispute(0, 0, 0), 73);
        Due.due("4: dispute(5, 4, 4)", x.dispute(5, 4, 4), 1);
        Due.due("5: listed(0)", x.listed(0), 0);
        Due.due("5: listed(5)", x.listed(5), 44);
        Due.due("5: listed(1)", x.listed(1), 1);
        int[][] bad = {{-1, 0, 0}, {6, 0, 0}, {0, -1, 0}, {0, 8, 0}, {0, 0, -1}, {0, 0, 8},
            {Integer.MIN_VALUE, 0, 0}, {0, Integer.MAX_VALUE, 0}};
        for (int[] b : bad) {
            Due.finds(x, "4: dispute(" + b[0] + ", " + b[1] + ", " + b[2] + ")",
                () -> x.dispute(b[0], b[1], b[2]), Due.BEYOND);
        }
        for (int i : new int[] {-1, 6, Integer.MAX_VALUE, Integer.MIN_VALUE}) {
            Due.finds(x, "5: listed(" + i + ")", () -> x.listed(i), Due.BEYOND);
        }
    }

    private static void disputant() {
        ToastCourt x = new ToastCourt();
        int[][] bad = {{-1, 0}, {7, 0}, {0, -1}, {0, 100}, {7, 100}};
        for (int[] b : bad) {
            Due.finds(x, "6: disputant(" + b[0] + ", " + b[1] + ")", () -> x.disputant(b[0], b[1]), Due.BEYOND);
        }
        for (int d = 0; d < 8; d++) {
            Due.due("6: disputant " + d, x.disputant(d % 7, d == 0 ? 0 : 92 + d), d);
        }
        Due.due("6: count(1)", x.count(1), 8);
        Due.due("6: of(0, 1)", x.of(0, 1), 0);
        Due.due("6: of(7, 1)", x.of(7, 1), 99);
        Due.due("6: of(6, 0)", x.of(6, 0), 6);
        Due.due("6: of(7, 0)", x.of(7, 0), 0);
        Due.due("6: of(7, 2)", x.of(7, 2), 20);
        Due.due("6: of(7, 3)", x.of(7, 3), 0);
        Due.due("6: of(7, 4)", x.of(7, 4), 0);
        Due.due("6: of(7, 5)", x.of(7, 5), 0);
        Due.finds(x, "6: a 9th", () -> x.disputant(0, 0), Due.FULL);
        // BEYOND is asked ahead of FULL.
        Due.finds(x, "6: a 9th of no kind", () -> x.disputant(7, 0), Due.BEYOND);
        Due.finds(x, "6: a 9th with no cause", () -> x.disputant(0, 100), Due.BEYOND);
    }

    private static void of() {
        ToastCourt x = new ToastCourt();
        x.disputant(5, 33);
        x.change(0, 2, 47);
        x.change(0, 3, 12);
        x.change(0, 4, 34);
        x.change(0, 5, 1);
        int[] want = {5, 33, 47, 12, 34, 1, 16, 7, 8, 7, 5};
        for (int what = 0; what < 11; what++) {
            Due.due("7: of(0, " + what + ")", x.of(0, what), want[what]);
        }
        int[][] bad = {{-1, 0}, {1, 0}, {0, -1}, {0, 11}, {8, 0}, {Integer.MIN_VALUE, 0}, {0, Integer.MAX_VALUE}};
        for (int[] b : bad) {
            Due.finds(x, "7: of(" + b[0] + ", " + b[1] + ")", () -> x.of(b[0], b[1]), Due.BEYOND);
        }
    }

    /** A kind, a cause, a temper, a spread, DROP, then PRESSES, JOLTS, GROWS, LEARNS, COOLS. */
    private static void ofByKind() {
        int[][] rows = {
            {0, 40, 39, 6, 0, 40, 3, 6, 3, 1},
            {0, 99, 99, 9, 1, 99, 9, 6, 3, 1},
            {1, 40, 39, 6, 0, 49, 4, 12, 0, 1},
            {1, 99, 99, 9, 1, 123, 10, 12, 0, 1},
            {2, 40, 39, 6, 0, 46, 0, 3, 3, 2},
            {2, 99, 99, 9, 1, 108, 0, 3, 3, 2},
            {3, 40, 39, 6, 0, 52, 0, 0, 3, 2},
            {3, 40, 39, 5, 1, 50, 1, 0, 3, 2},
            {3, 40, 39, 4, 1, 44, 1, 0, 3, 2},
            {3, 99, 99, 9, 2, 117, 0, 0, 3, 2},
            {4, 20, 39, 6, 0, 64, 0, 0, 3, 2},
            {4, 20, 39, 4, 1, 48, 1, 0, 3, 2},
            {4, 45, 39, 4, 2, 98, 0, 0, 3, 2},
            {4, 46, 39, 4, 3, 99, 1, 0, 3, 2},
            {4, 99, 39, 9, 3, 99, 1, 0, 3, 2},
            {5, 41, 39, 6, 0, 20, 6, 8, 7, 5},
            {5, 1, 9, 0, 1, 0, 3, 8, 7, 5},
            {6, 40, 39, 6, 0, 44, 4, 12, 5, 2},
            {6, 0, 0, 6, 0, 0, 1, 12, 5, 2},
            {6, 1, 19, 6, 0, 0, 2, 12, 5, 2},
            {6, 0, 24, 6, 1, 1, 3, 12, 5, 2},
        };
        for (int[] r : rows) {
            ToastCourt x = new ToastCourt();
            for (int k = 0; k < r[4]; k++) {
                x.go(1);
            }
            x.disputant(r[0], r[1]);
            x.change(0, 2, r[2]);
            x.set(1, r[3]);
            for (int what = 6; what < 11; what++) {
                Due.due("7: of(0, " + what + ") of kind " + r[0] + ", cause " + r[1] + ", temper " + r[2]
                    + ", spread " + r[3] + ", drop " + r[4], x.of(0, what), r[what - 1]);
            }
        }
    }

    private static void change() {
        ToastCourt x = new ToastCourt();
        x.disputant(3, 50);
        x.disputant(3, 50);
        int[] first = {3, 50, 20, 0, 0, 0};
        int[] most = {6, 99, 99, 9999, 9999, 1};
        for (int what = 0; what < 6; what++) {
            int w = what;
            Due.due("8: change(1, " + what + ", most)", x.change(1, what, most[what]), first[what]);
            Due.due("8: of(1, " + what + ")", x.of(1, what), most[what]);
            Due.due("8: of(0, " + what + ")", x.of(0, what), first[what]);
            Due.finds(x, "8: change(1, " + what + ", above)", () -> x.change(1, w, most[w] + 1), Due.BEYOND);
            Due.finds(x, "8: change(1, " + what + ", -1)", () -> x.change(1, w, -1), Due.BEYOND);
            Due.due("8: change(1, " + what + ", 0)", x.change(1, what, 0), most[what]);
            Due.due("8: of(1, " + what + ") is 0", x.of(1, what), 0);
        }
        int[][] bad = {{2, 0, 0}, {-1, 0, 0}, {0, 6, 0}, {0, -1, 0}, {0, 10, 1}};
        for (int[] b : bad) {
            Due.finds(x, "8: change(" + b[0] + ", " + b[1] + ", " + b[2] + ")",
                () -> x.change(b[0], b[1], b[2]), Due.BEYOND);
        }
    }

    private static void turning() {
        ToastCourt x = new ToastCourt();
        x.disputant(0, 50);
        x.disputant(5, 50);
        x.disputant(3, 50);
        // 12 * 7 / 7, 2 of one, 5 of the child.
        Due.due("9: turning(0, 1)", x.turning(0, 1), 19);
        Due.due("9: turning(1, 0)", x.turning(1, 0), 19);
        Due.due("9: turning(0, 2)", x.turning(0, 2), 14);
        x.set(0, 13);
        x.set(1, 8);
        // 26 / 7 is cut to 3.
        Due.due("9: turning(0, 2) cut", x.turning(0, 2), 5);
        x.set(1, 0);
        x.set(0, 60);
        // 600 / 7 is cut to 85.
        Due.due("9: turning(0, 2) high", x.turning(0, 2), 87);
        x.change(0, 5, 1);
        Due.due("9: turning(0, 2) of a silent one", x.turning(0, 2), 87);
        x.dispute(0, 7, 7);
        x.go(1);
        Due.due("9: turning(0, 2) with DROP odd", x.turning(0, 2), 87 - 1 + 1);
        int[][] bad = {{0, 0}, {0, 3}, {3, 0}, {-1, 0}, {0, -1}, {3, 3}, {7, 1}};
        for (int[] b : bad) {
            Due.finds(x, "9: turning(" + b[0] + ", " + b[1] + ")", () -> x.turning(b[0], b[1]), Due.BEYOND);
        }
    }

    private static void falls() {
        ToastCourt x = new ToastCourt();
        x.disputant(0, 50);
        x.disputant(0, 50);
        x.disputant(0, 60);
        // 12 and 4 turns are even: who presses less, of equals B.
        Due.due("10: falls(0, 1) even, equal", x.falls(0, 1), 1);
        Due.due("10: falls(1, 0) even, equal", x.falls(1, 0), 0);
        Due.due("10: falls(0, 2) even", x.falls(0, 2), 0);
        Due.due("10: falls(2, 0) even", x.falls(2, 0), 0);
        x.set(0, 11);
        Due.due("10: falls(0, 1) odd, equal", x.falls(0, 1), 0);
        Due.due("10: falls(1, 0) odd, equal", x.falls(1, 0), 1);
        Due.due("10: falls(0, 2) odd", x.falls(0, 2), 2);
        Due.due("10: falls(2, 0) odd", x.falls(2, 0), 2);
        x.change(2, 5, 1);
        Due.due("10: falls(2, 0) silent", x.falls(2, 0), 2);
        x.set(0, 9);
        Due.finds(x, "10: falls(0, 1) of 13 turns", () -> x.falls(0, 1), Due.NONE);
        x.set(0, 22);
        Due.finds(x, "10: falls(0, 1) of 26 turns", () -> x.falls(0, 1), Due.NONE);
        x.change(0, 0, 2);
        x.change(1, 0, 2);
        x.set(0, 1);
        x.set(1, 9);
        Due.finds(x, "10: falls(0, 1) of no turns", () -> x.falls(0, 1), Due.NONE);
        int[][] bad = {{0, 0}, {0, 3}, {3, 0}, {-1, 0}, {0, -1}, {8, 8}};
        for (int[] b : bad) {
            Due.finds(x, "10: falls(" + b[0] + ", " + b[1] + ")", () -> x.falls(b[0], b[1]), Due.BEYOND);
        }
    }
}
