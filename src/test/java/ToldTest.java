/** Promises 24 to 26: told falls. */
public final class ToldTest {
    public static void main(String[] args) {
        byHand();
        highest();
        anyOf(8);
        anyOf(16);
        anyOf(32);
        for (long seed = 0; seed < 150; seed++) {
            againstTheOracle(seed);
        }
        findings();
        Due.end("ToldTest");
    }

    private static void byHand() {
        ToastCourt x = new ToastCourt();
        x.disputant(2, 10);
        x.disputant(2, 90);
        x.sheet(0, 16, 0);
        Due.due("24: fits of an empty sheet", x.fits(0, 0), 60);
        Due.due("25: height of an empty sheet", x.height(0, 0), 1);
        Due.due("26: kinds of an empty sheet", x.kinds(0, 0), 127);
        x.sheet(0, 16, 1);
        Due.due("24: fits, WRONG now", x.fits(0, 0), 60);
        x.write(0, 0, 1);
        Due.due("24: fits, WRONG not so now", x.fits(0, 0), 0);
        Due.finds(x, "25: height, WRONG not so now", () -> x.height(0, 0), Due.NONE);
        Due.due("26: kinds, WRONG not so now", x.kinds(0, 0), 0);
        x.sheet(0, 16, 2);
        x.write(0, 1, 1);
        // Turns are HEIGHT: 30 even ones less 26 and 52; the odd ones but 13 and 39 fall for 1.
        Due.due("24: fits of 0, 1", x.fits(0, 0), 28);
        Due.due("25: height of 0, 1", x.height(0, 0), 2);
        Due.due("24: fits of 0, 1 for 1", x.fits(0, 1), 28);
        Due.due("25: height of 0, 1 for 1", x.height(0, 1), 1);
        x.write(0, 1, 0);
        Due.due("24: fits of 0, 0", x.fits(0, 0), 32);
        Due.due("25: height of 0, 0", x.height(0, 0), 1);
        Due.due("25: height of 0, 0 for 1", x.height(0, 1), 2);
        // As others than 2 (12 turns): 0 gives 14, 1 and 6 15, 3 and 4 12 (4 presses 26), 5 17.
        Due.due("26: kinds of 0, 0", x.kinds(0, 0), 2 + 64 + 32);
        x.write(0, 1, 1);
        Due.due("26: kinds of 0, 1", x.kinds(0, 0), 1 + 4 + 8 + 16);
        x.sheet(0, 16, 3);
        x.write(0, 0, -1);
        x.write(0, 1, -1);
        x.write(0, 2, 2);
        Due.due("24: fits of any, any, 2", x.fits(0, 0), 28);
        x.write(0, 1, 0);
        Due.due("24: fits of any, 0, 2", x.fits(0, 0), 0);
        x.write(0, 0, -2);
        x.write(0, 1, -1);
        Due.due("24: fits of -2, any, 2", x.fits(0, 0), 0);
        Due.due("24: HEIGHT is as it was", x.court(0), 12);
        Due.due("26: KIND is as it was", x.of(0, 0), 2);
    }

    /** 60 is the one height with 17 turns: 26 with 9 jolts stand, and 25 with 8 fall for the lawyer. */
    private static void highest() {
        ToastCourt x = new ToastCourt();
        x.disputant(0, 0);
        x.disputant(2, 99);
        x.change(0, 2, 90);
        x.set(1, 8);
        x.sheet(0, 8, 3);
        Due.due("24: fits of the highest", x.fits(0, 0), 1);
        Due.due("25: height, the highest", x.height(0, 0), 60);
    }

    private static void anyOf(int bits) {
        ToastCourt x = new ToastCourt();
        x.disputant(0, 1);
        x.sheet(3, bits, 40);
        for (int i = 0; i < 40; i++) {
            x.write(3, i, -1);
        }
        Due.due("24: fits of any, " + bits, x.fits(3, 0), 60);
        Due.due("26: kinds of any, " + bits, x.kinds(3, 0), 127);
        x.write(3, 39, 1);
        Due.due("24: fits of any but the last, " + bits, x.fits(3, 0), 0);
        // Lowest bits with their sign: 255 is -1 where there are 8.
        x.write(3, 39, 255);
        Due.due("24: fits with 255, " + bits, x.fits(3, 0), bits == 8 ? 60 : 0);
        x.write(3, 39, 65535);
        Due.due("24: fits with 65535, " + bits, x.fits(3, 0), bits < 32 ? 60 : 0);
    }

    private static void againstTheOracle(long seed) {
        ToastCourt x = Oracle.anyCourt(seed);
        java.util.Random any = new java.util.Random(seed);
        int d = (int) (seed % x.count(1));
        int n = any.nextInt(41);
        int[] row = new int[n];
        Oracle telling = Oracle.of(x);
        telling.height = 1 + any.nextInt(60);
        for (int i = 0; i < n; i++) {
            if (i > 0) {
                telling.go(1);
            }
            row[i] = any.nextInt(3) > 0 ? -1 : telling.all.get(d).wrong;
        }
        x.sheet(2, 32, n);
        for (int i = 0; i < n; i++) {
            x.write(2, i, row[i]);
        }
        String was = Due.picture(x);
        int fits = 0;
        int least = Due.NONE;
        for (int h = 60; h >= 1; h--) {
            Oracle o = Oracle.of(x);
            o.height = h;
            if (isAsTold(o, d, row)) {
                fits++;
                least = h;
            }
        }
        Due.due("24: fits of court " + seed, x.fits(2, d), fits);
        Due.due("25: height of court " + seed, x.height(2, d), least);
        x.set(0, telling.height);
        int kinds = 0;
        for (int kind = 0; kind < 7; kind++) {
            int its = x.change(d, 0, kind);
            kinds |= isAsTold(Oracle.of(x), d, row) ? 1 << kind : 0;
            x.change(d, 0, its);
        }
        Due.due("26: kinds of court " + seed, x.kinds(2, d), kinds);
        x.set(0, Integer.parseInt(was.substring(0, was.indexOf(' '))));
        Due.due("24: court " + seed + " is as it was", was.equals(Due.picture(x)) ? 1 : 0, 1);
    }

    private static boolean isAsTold(Oracle o, int d, int[] row) {
        for (int i = 0; i < row.length; i++) {
            o.go(i == 0 ? 0 : 1);
            if (row[i] != -1 && row[i] != o.all.get(d).wrong) {
                return false;
            }
        }
        return true;
    }

    private static void findings() {
        ToastCourt x = new ToastCourt();
        x.disputant(0, 0);
        x.sheet(1, 8, 2);
        int[][] bad = {{-1, 0}, {4, 0}, {4, 5}, {1, 1}, {1, -1}, {1, 8}, {Integer.MIN_VALUE, 0}};
        for (int[] b : bad) {
            String in = "(" + b[0] + ", " + b[1] + ")";
            Due.finds(x, "24: fits" + in, () -> x.fits(b[0], b[1]), Due.BEYOND);
            Due.finds(x, "25: height" + in, () -> x.height(b[0], b[1]), Due.BEYOND);
            Due.finds(x, "26: kinds" + in, () -> x.kinds(b[0], b[1]), Due.BEYOND);
        }
        // MISSING is asked ahead of the one.
        for (int d : new int[] {0, 1, -1}) {
            Due.finds(x, "24: fits(0, " + d + ")", () -> x.fits(0, d), Due.MISSING);
            Due.finds(x, "25: height(0, " + d + ")", () -> x.height(0, d), Due.MISSING);
            Due.finds(x, "26: kinds(0, " + d + ")", () -> x.kinds(0, d), Due.MISSING);
        }
    }
}
