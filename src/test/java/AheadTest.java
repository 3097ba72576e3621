/** Promises 13 to 17: what will be. */
public final class AheadTest {
    public static void main(String[] args) {
        byHand();
        againstGoing();
        calmByCooling();
        findings();
        Due.end("AheadTest");
    }

    private static void byHand() {
        ToastCourt x = new ToastCourt();
        x.disputant(0, 50);
        x.disputant(0, 50);
        // The first three drops as in DropsTest: 1 is found wrong twice, then 0.
        Due.due("13: ahead(0, 1, 0)", x.ahead(0, 1, 0), 50);
        Due.due("13: ahead(1, 1, 1)", x.ahead(1, 1, 1), 53);
        Due.due("13: ahead(1, 2, 2)", x.ahead(1, 2, 2), 30);
        Due.due("13: ahead(1, 3, 2)", x.ahead(1, 3, 2), 2);
        Due.due("13: ahead(0, 4, 2)", x.ahead(0, 4, 2), 2);
        Due.due("13: ahead(0, 6, 3)", x.ahead(0, 6, 3), 53);
        Due.due("14: wrong(0, 0)", x.wrong(0, 0), 0);
        Due.due("14: wrong(1, 1)", x.wrong(1, 1), 1);
        Due.due("14: wrong(1, 2)", x.wrong(1, 2), 2);
        Due.due("14: wrong(0, 1)", x.wrong(0, 1), 3);
        Due.due("15: right(1, 0)", x.right(1, 0), 0);
        Due.due("15: right(0, 1)", x.right(0, 1), 1);
        Due.due("15: right(0, 2)", x.right(0, 2), 2);
        Due.due("15: right(1, 1)", x.right(1, 1), 3);
        Due.due("17: calm(0, 20)", x.calm(0, 20), 0);
        Due.due("17: calm(0, 18)", x.calm(0, 18), 2);
        x.set(0, 9);
        // 9 and 4 turns stand at once.
        Due.due("16: stands()", x.stands(), 1);
        x.dispute(0, 1, 1);
        // Nothing is dropped; then 11 and 1 and 1 turns stand.
        x.set(0, 11);
        Due.due("16: stands() behind one that falls out", x.stands(), 2);
        Due.due("13: DROP is as it was", x.now(0), 0);
        Due.due("13: WRONG is as it was", x.now(1), 0);
        Due.due("13: no finding", x.status(-1), 0);
    }

    /** Each answer is held against going there and coming back. */
    private static void againstGoing() {
        for (long seed = 0; seed < 120; seed++) {
            ToastCourt x = Oracle.anyCourt(seed);
            String was = Due.picture(x);
            int d = (int) (seed % x.count(1));
            int[] whats = {1, 2, 3, 4, 6};
            int[][] seen = new int[201][];
            int[] edges = new int[201];
            x.image();
            for (int k = 0; k <= 200; k++) {
                if (k > 0) {
                    x.go(1);
                }
                seen[k] = new int[] {x.of(d, 1), x.of(d, 2), x.of(d, 3), x.of(d, 4), x.of(d, 6)};
                edges[k] = x.court(2);
            }
            x.undo();
            for (int w = 0; w < 5; w++) {
                for (int n = 0; n <= 100; n += n < 15 || n == 99 ? 1 : 12) {
                    Due.due("13: ahead(" + d + ", " + whats[w] + ", " + n + ") of court " + seed,
                        x.ahead(d, whats[w], n), seen[n][w]);
                }
            }
            for (int k = 0; k <= 200; k += 5) {
                Due.due("14: wrong of court " + seed, x.wrong(d, seen[k][2]), first(seen, 2, seen[k][2], true));
                Due.due("15: right of court " + seed, x.right(d, seen[k][3]), first(seen, 3, seen[k][3], true));
                Due.due("17: calm of court " + seed, x.calm(d, seen[k][1]), first(seen, 1, seen[k][1], false));
            }
            int above = Math.min(seen[200][2] + 1, 9999);
            Due.due("14: wrong above, of court " + seed, x.wrong(d, above), first(seen, 2, above, true));
            int stands = 1;
            while (stands <= 200 && edges[stands] == edges[0]) {
                stands++;
            }
            Due.due("16: stands() of court " + seed, x.stands(), stands <= 200 ? stands : Due.NONE);
            Due.due("13: court " + seed + " is as it was", was.equals(Due.picture(x)) ? 1 : 0, 1);
        }
    }

    private static int first(int[][] seen, int column, int v, boolean orMore) {
        for (int k = 0; k < seen.length; k++) {
            if (orMore ? seen[k][column] >= v : seen[k][column] <= v) {
                return k;
            }
        }
        return Due.NONE;
    }

    private static void calmByCooling() {
        ToastCourt x = new ToastCourt();
        x.disputant(5, 50);
        x.disputant(0, 50);
        x.dispute(0, 0, 0);
        x.change(0, 2, 99);
        x.change(0, 5, 1);
        Due.due("17: calm(0, 99)", x.calm(0, 99), 0);
        Due.due("17: calm(0, 98)", x.calm(0, 98), 1);
        Due.due("17: calm(0, 94)", x.calm(0, 94), 1);
        Due.due("17: calm(0, 93)", x.calm(0, 93), 2);
        Due.due("17: calm(0, 0)", x.calm(0, 0), 20);
    }

    private static void findings() {
        ToastCourt x = new ToastCourt();
        Due.finds(x, "16: stands() of nobody", () -> x.stands(), Due.NONE);
        x.disputant(0, 50);
        x.disputant(0, 50);
        int[][] bad = {{-1, 1, 0}, {2, 1, 0}, {0, 0, 0}, {0, 5, 0}, {0, 7, 0}, {0, 10, 0}, {0, -1, 0}, {0, 1, -1},
            {0, 1, 101}, {0, 6, Integer.MAX_VALUE}};
        for (int[] b : bad) {
            Due.finds(x, "13: ahead(" + b[0] + ", " + b[1] + ", " + b[2] + ")",
                () -> x.ahead(b[0], b[1], b[2]), Due.BEYOND);
        }
        int[][] two = {{-1, 0}, {2, 0}, {0, -1}, {0, 10000}, {7, 10000}};
        for (int[] b : two) {
            Due.finds(x, "14: wrong(" + b[0] + ", " + b[1] + ")", () -> x.wrong(b[0], b[1]), Due.BEYOND);
            Due.finds(x, "15: right(" + b[0] + ", " + b[1] + ")", () -> x.right(b[0], b[1]), Due.BEYOND);
            Due.finds(x, "17: calm(" + b[0] + ", " + b[1] + ")", () -> x.calm(b[0], b[1]), Due.BEYOND);
        }
        Due.finds(x, "17: calm(0, 100)", () -> x.calm(0, 100), Due.BEYOND);
        Due.finds(x, "14: wrong(0, 9999)", () -> x.wrong(0, 9999), Due.NONE);
        Due.finds(x, "15: right(0, 9999)", () -> x.right(0, 9999), Due.NONE);
    }
}
