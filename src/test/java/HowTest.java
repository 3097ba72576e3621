/** Promises 18 to 23: how to drop. */
public final class HowTest {
    public static void main(String[] args) {
        heightByHand();
        spreadByHand();
        kindByHand();
        causeByHand();
        againstByHand();
        silenceByHand();
        for (long seed = 0; seed < 150; seed++) {
            againstTheOracle(seed);
        }
        findings();
        Due.end("HowTest");
    }

    private static ToastCourt lawyers(int first, int second) {
        ToastCourt x = new ToastCourt();
        x.disputant(2, first);
        x.disputant(2, second);
        return x;
    }

    private static void heightByHand() {
        ToastCourt x = lawyers(10, 20);
        // Turns are HEIGHT: odd ones fall for 1, even ones for 0.
        Due.due("18: heightFor(0, 1)", x.heightFor(0, 1), 1);
        Due.due("18: heightFor(1, 1)", x.heightFor(1, 1), 2);
        Due.due("18: heightFor(1, 0)", x.heightFor(1, 0), 1);
        Due.due("18: heightFor(0, 60)", x.heightFor(0, 60), 1);
        // Even turns fall for 0 till it has learnt, at the fourth, to press 25 against 23; 13 stand.
        Due.due("18: heightFor(1, 4)", x.heightFor(1, 4), 2);
        Due.due("18: heightFor(1, 5)", x.heightFor(1, 5), 13);
        x.change(1, 3, 7);
        Due.due("18: heightFor(1, 1) of one with WRONG", x.heightFor(1, 1), 2);
        Due.due("18: HEIGHT is as it was", x.court(0), 12);

        // With SPREAD 9 turns are a seventh of HEIGHT: 1 gives none, and it stands.
        ToastCourt y = lawyers(10, 20);
        y.set(1, 9);
        Due.due("18: heightFor(0, 1) of no turns", y.heightFor(0, 1), 1);
        Due.due("18: heightFor(1, 1) of no turns", y.heightFor(1, 1), 1);

        // Who has all drops, against one with less and one with as much cause, is found wrong from every height.
        ToastCourt z = new ToastCourt();
        z.disputant(0, 0);
        z.disputant(4, 99);
        z.disputant(0, 99);
        int[][] list = {{0, 1}, {2, 0}, {0, 1}, {2, 0}, {0, 1}, {2, 0}};
        for (int i = 0; i < 6; i++) {
            z.dispute(i, list[i][0], list[i][1]);
        }
        z.change(0, 2, 99);
        z.change(2, 2, 99);
        Due.finds(z, "18: heightFor(2, 60)", () -> z.heightFor(2, 60), Due.NONE);
    }

    private static void spreadByHand() {
        ToastCourt x = lawyers(10, 20);
        x.set(0, 7);
        // Turns are 10 less SPREAD: even ones fall for 0, odd ones for 1.
        Due.due("19: spreadFor(1, 1)", x.spreadFor(1, 1), 0);
        Due.due("19: spreadFor(0, 1)", x.spreadFor(0, 1), 1);
        Due.due("19: spreadFor(0, 0)", x.spreadFor(0, 0), 0);
        x.set(0, 13);
        // 13 * 10 / 7 is 18, of 9 it is 16, of 8 14, of 7 13, of 6 11.
        Due.due("19: spreadFor(0, 1) from 13", x.spreadFor(0, 1), 4);
        Due.due("19: SPREAD is as it was", x.court(1), 3);
        // SPREAD also counts for what a parson presses.
        ToastCourt y = new ToastCourt();
        y.disputant(3, 41);
        y.disputant(0, 50);
        y.change(1, 2, 0);
        y.set(0, 14);
        // Turns are twice (10 less SPREAD), so even: 1 is found wrong where the parson presses more than
        // 50, and 5 is the least SPREAD for that (45 with 4, 51 with 5).
        Due.due("19: spreadFor(0, 1) of a parson", y.spreadFor(0, 1), 5);
    }

    private static void kindByHand() {
        ToastCourt x = new ToastCourt();
        x.disputant(5, 50);
        x.disputant(2, 50);
        x.set(0, 12);
        // 1 presses 53, 12 turns and the jolts of 0: as 0 (2 jolts, 14 turns) who presses less: 0 itself;
        // as 1 15 turns who presses more: 55 is 0 itself; as 2 12 turns of equals B: right.
        Due.due("20: kindFor(0, 1)", x.kindFor(0, 1), 2);
        Due.due("20: kindFor(0, 0)", x.kindFor(0, 0), 0);
        x.set(0, 13);
        // As 0 15 turns, who presses more: 1.
        Due.due("20: kindFor(0, 1) from 13", x.kindFor(0, 1), 0);
        Due.due("20: KIND is as it was", x.of(0, 0), 5);
    }

    private static void causeByHand() {
        ToastCourt x = lawyers(10, 20);
        // 12 turns: who presses less, of equals B.
        Due.due("21: causeFor(0, 1, 1)", x.causeFor(0, 1, 1), 20);
        Due.due("21: causeFor(1, 1, 1)", x.causeFor(1, 1, 1), 11);
        Due.due("21: causeFor(1, 0, 1)", x.causeFor(1, 0, 1), 0);
        Due.due("21: causeFor(1, 0, 0)", x.causeFor(1, 0, 0), 0);
        Due.due("21: causeFor(1, 2, 2)", x.causeFor(1, 2, 2), 14);
        Due.finds(x, "21: causeFor(1, 3, 2)", () -> x.causeFor(1, 3, 2), Due.NONE);
        Due.finds(x, "21: causeFor(1, 1, 0)", () -> x.causeFor(1, 1, 0), Due.NONE);
        x.change(1, 4, 9999);
        Due.due("21: causeFor(1, 9999, 0)", x.causeFor(1, 9999, 0), 0);
        Due.due("21: CAUSE is as it was", x.of(1, 1), 20);
        // The most cause of all is just enough.
        ToastCourt y = lawyers(10, 99);
        Due.due("21: causeFor(0, 1, 1) of 99", y.causeFor(0, 1, 1), 99);
        y.dispute(0, 1, 0);
        Due.finds(y, "21: causeFor(0, 1, 1) against 99", () -> y.causeFor(0, 1, 1), Due.NONE);
    }

    private static void againstByHand() {
        ToastCourt x = new ToastCourt();
        x.disputant(2, 30);
        Due.finds(x, "22: against(0, 1) of one alone", () -> x.against(0, 1), Due.NONE);
        x.disputant(2, 40);
        x.disputant(2, 30);
        x.disputant(2, 10);
        x.dispute(0, 6, 7);
        // 12 turns fall for who presses less, of equals B: 2 and 3 would do.
        Due.due("22: against(0, 1)", x.against(0, 1), 2);
        Due.due("22: against(0, 0)", x.against(0, 0), 1);
        Due.due("22: against(1, 0)", x.against(1, 0), 0);
        Due.due("22: against(3, 1)", x.against(3, 1), 0);
        x.change(2, 5, 1);
        Due.due("22: against(0, 1), 2 silent", x.against(0, 1), 3);
        Due.due("22: listed(0) is as it was", x.listed(0), 67);
        for (int i = 1; i < 6; i++) {
            x.dispute(i, 7, 7);
        }
        x.go(7);
        x.dispute(1, 7, 7);
        Due.due("22: against(0, 7) at DROP 7", x.against(0, 7), 3);
        // Place 1 is told so for this DROP and the one 6 further on: 2 is found wrong at the first,
        // learns, and presses more at the second; 3 is found wrong at both.
        x.change(2, 5, 0);
        Due.due("22: against(0, 1) at DROP 7", x.against(0, 1), 2);
        Due.due("22: against(0, 7) at DROP 7, 2 speaks", x.against(0, 7), 3);
    }

    private static void silenceByHand() {
        ToastCourt x = new ToastCourt();
        x.disputant(2, 30);
        x.disputant(2, 40);
        x.disputant(2, 50);
        x.disputant(2, 60);
        Due.due("23: silence(1, 1)", x.silence(1, 1), 0);
        Due.due("23: silence(0, 0)", x.silence(0, 0), 0);
        Due.due("23: silence(0, 1)", x.silence(0, 1), 2);
        x.dispute(1, 2, 0);
        x.dispute(2, 3, 1);
        Due.due("23: silence(0, 2)", x.silence(0, 2), 6);
        x.change(1, 5, 1);
        Due.due("23: silence(0, 2), 1 silent", x.silence(0, 2), 4);
        x.change(1, 5, 0);
        x.change(0, 5, 1);
        Due.due("23: silence(0, 2), itself silent", x.silence(0, 2), 0);
        Due.due("23: now(6) is as it was", x.now(6), 1);
        // 3 makes 2 learn, by which 1 is found wrong: either 2 or 3 would do.
        ToastCourt y = new ToastCourt();
        y.disputant(2, 0);
        y.disputant(2, 40);
        y.disputant(2, 39);
        y.disputant(2, 60);
        y.dispute(0, 3, 2);
        y.dispute(1, 2, 1);
        for (int i = 2; i < 6; i++) {
            y.dispute(i, 7, 7);
        }
        Due.due("23: silence(1, 2)", y.silence(1, 2), 4);
        y.dispute(0, 0, 2);
        y.change(0, 1, 99);
        Due.due("23: silence(1, 2), by 0", y.silence(1, 2), 1);
        // 2 is found wrong if 0 or 1 makes 3 learn: 3 alone counts as fewer than 0 and 1, whose set is less.
        ToastCourt w = new ToastCourt();
        w.disputant(2, 99);
        w.disputant(2, 99);
        w.disputant(2, 45);
        w.disputant(2, 43);
        w.dispute(0, 0, 3);
        w.dispute(1, 1, 3);
        w.dispute(2, 3, 2);
        Due.due("23: silence(2, 3)", w.silence(2, 3), 8);
        // Six others, each of whom finds it wrong once.
        ToastCourt z = new ToastCourt();
        z.disputant(2, 0);
        for (int d = 1; d < 8; d++) {
            z.disputant(2, 99);
        }
        for (int i = 0; i < 6; i++) {
            z.dispute(i, i + 1, 0);
        }
        Due.due("23: silence(0, 6) of six", z.silence(0, 6), 126);
        Due.due("23: silence(0, 20) of six", z.silence(0, 20), 126);
        z.go(1);
        z.dispute(0, 7, 0);
        Due.due("23: silence(0, 6) of the 2nd to 7th", z.silence(0, 6), 252);
    }

    private static void againstTheOracle(long seed) {
        ToastCourt x = Oracle.anyCourt(seed);
        String was = Due.picture(x);
        String court = " of court " + seed;
        int d = (int) (seed % x.count(1));
        int[] ns = {0, 1, (int) (seed % 20), 20, 40, 60};
        for (int n : ns) {
            Due.due("18: heightFor(" + d + ", " + n + ")" + court, x.heightFor(d, n), heightOf(x, d, n));
            Due.due("19: spreadFor(" + d + ", " + n + ")" + court, x.spreadFor(d, n), spreadOf(x, d, n));
            Due.due("20: kindFor(" + d + ", " + n + ")" + court, x.kindFor(d, n), kindOf(x, d, n));
            Due.due("22: against(" + d + ", " + n + ")" + court, x.against(d, n), rivalOf(x, d, n));
            if (n <= 40) {
                int v = Math.min(9999, x.of(d, 4) + (int) (seed % 12));
                Due.due("21: causeFor(" + d + ", " + v + ", " + n + ")" + court, x.causeFor(d, v, n),
                    causeOf(x, d, v, n));
            }
            if (n <= 20) {
                Due.due("23: silence(" + d + ", " + n + ")" + court, x.silence(d, n), silenceOf(x, d, n));
            }
        }
        Due.due("18: as it was" + court, was.equals(Due.picture(x)) ? 1 : 0, 1);
    }

    static int heightOf(ToastCourt x, int d, int n) {
        for (int h = 1; h <= 60; h++) {
            Oracle o = Oracle.of(x);
            o.height = h;
            if (o.go(n).all.get(d).wrong == x.of(d, 3)) {
                return h;
            }
        }
        return Due.NONE;
    }

    static int spreadOf(ToastCourt x, int d, int n) {
        int[] rights = new int[10];
        for (int s = 0; s < 10; s++) {
            Oracle o = Oracle.of(x);
            o.spread = s;
            rights[s] = o.go(n).all.get(d).right;
        }
        return placeOfMost(rights);
    }

    static int kindOf(ToastCourt x, int d, int n) {
        int[] rights = new int[7];
        for (int kind = 0; kind < 7; kind++) {
            Oracle o = Oracle.of(x);
            o.all.set(d, Oracle.as(o.all.get(d), kind));
            rights[kind] = o.go(n).all.get(d).right;
        }
        return placeOfMost(rights);
    }

    static int rivalOf(ToastCourt x, int d, int n) {
        int[] rights = new int[x.count(1)];
        for (int other = 0; other < rights.length; other++) {
            Oracle o = Oracle.of(x);
            o.list[o.drop % 6] = 10 * d + other;
            rights[other] = other == d ? -1 : o.go(n).all.get(d).right;
        }
        return rights.length == 1 ? Due.NONE : placeOfMost(rights);
    }

    static int causeOf(ToastCourt x, int d, int v, int n) {
        for (int cause = 0; cause < 100; cause++) {
            Oracle o = Oracle.of(x);
            o.all.get(d).cause = cause;
            if (o.go(n).all.get(d).right >= v) {
                return cause;
            }
        }
        return Due.NONE;
    }

    static int silenceOf(ToastCourt x, int d, int n) {
        int best = Due.NONE;
        for (int set = 0; set < 1 << x.count(1); set++) {
            Oracle o = Oracle.of(x);
            for (int other = 0; other < x.count(1); other++) {
                o.all.get(other).silent |= (set >> other & 1) == 1;
            }
            boolean isLeft = (set >> d & 1) == 0 && o.go(n).all.get(d).wrong == x.of(d, 3);
            if (isLeft && (best == Due.NONE || Integer.bitCount(set) < Integer.bitCount(best))) {
                best = set;
            }
        }
        return best;
    }

    private static int placeOfMost(int[] row) {
        int most = 0;
        for (int i = 1; i < row.length; i++) {
            if (row[i] > row[most]) {
                most = i;
            }
        }
        return most;
    }

    private static void findings() {
        ToastCourt x = lawyers(10, 20);
        int[][] two = {{-1, 0}, {2, 0}, {8, 0}, {0, -1}, {0, 61}, {Integer.MAX_VALUE, 0}, {0, Integer.MIN_VALUE}};
        for (int[] b : two) {
            String in = "(" + b[0] + ", " + b[1] + ")";
            Due.finds(x, "18: heightFor" + in, () -> x.heightFor(b[0], b[1]), Due.BEYOND);
            Due.finds(x, "19: spreadFor" + in, () -> x.spreadFor(b[0], b[1]), Due.BEYOND);
            Due.finds(x, "20: kindFor" + in, () -> x.kindFor(b[0], b[1]), Due.BEYOND);
            Due.finds(x, "22: against" + in, () -> x.against(b[0], b[1]), Due.BEYOND);
            Due.finds(x, "23: silence" + in, () -> x.silence(b[0], b[1]), Due.BEYOND);
        }
        Due.finds(x, "23: silence(0, 21)", () -> x.silence(0, 21), Due.BEYOND);
        int[][] three = {{-1, 0, 0}, {2, 0, 0}, {0, -1, 0}, {0, 10000, 0}, {0, 0, -1}, {0, 0, 41}};
        for (int[] b : three) {
            Due.finds(x, "21: causeFor(" + b[0] + ", " + b[1] + ", " + b[2] + ")",
                () -> x.causeFor(b[0], b[1], b[2]), Due.BEYOND);
        }
        // Of one alone BEYOND is asked ahead of NONE.
        ToastCourt y = new ToastCourt();
        y.disputant(0, 0);
        Due.finds(y, "22: against(0, 61) of one alone", () -> y.against(0, 61), Due.BEYOND);
        Due.due("20: kindFor(0, 60)", x.kindFor(0, 60), kindOf(x, 0, 60));
    }
}
