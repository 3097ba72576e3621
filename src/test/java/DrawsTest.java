import java.math.BigInteger;

/** Promises 27 to 29: drops by draws. */
public final class DrawsTest {
    public static void main(String[] args) {
        tossByHand();
        tossAgainstTheOracle();
        tossFindings();
        oddsByHand();
        oddsAgainstTheOracle();
        oddsFindings();
        seed();
        Due.end("DrawsTest");
    }

    private static void tossByHand() {
        ToastCourt x = new ToastCourt();
        int z1 = 1103527590;
        int z2 = (int) (z1 * 1103515245L + 12345L);
        int z3 = (int) (z2 * 1103515245L + 12345L);
        Due.due("27: toss(1) of nobody", x.toss(1), 0);
        Due.due("27: z", x.count(6), z3);
        Due.due("27: listed(0)", x.listed(0), 10 * ((z1 >>> 8) % 8) + (z2 >>> 8) % 8);
        Due.due("27: HEIGHT", x.court(0), 1 + (z3 >>> 8) % 60);
        Due.due("27: listed(1)", x.listed(1), 1);
        Due.due("27: DROP", x.now(0), 1);
        Due.due("27: z of one draw", z1 >>> 8, 4310654);
    }

    private static void tossAgainstTheOracle() {
        for (int seed = 0; seed < 200; seed++) {
            ToastCourt x = Oracle.anyCourt(5L * seed);
            Oracle o = Oracle.of(x);
            int z = seed % 3 == 0 ? -seed * 77777 : seed * 1234567;
            x.seed(z);
            int n = 1 + seed % 20;
            for (int k = 0; k < n; k++) {
                z = z * 1103515245 + 12345;
                int a = (z >>> 8) % 8;
                z = z * 1103515245 + 12345;
                int b = (z >>> 8) % 8;
                z = z * 1103515245 + 12345;
                o.list[o.drop % 6] = 10 * a + b;
                o.height = 1 + (z >>> 8) % 60;
                o.go(1);
            }
            Due.due("27: toss(" + n + ") of court " + seed, x.toss(n), o.wrongs());
            Due.due("27: z of court " + seed, x.count(6), z);
            Due.due("27: HEIGHT of court " + seed, x.court(0), o.height);
            Due.due("27: DROP of court " + seed, x.now(0), o.drop);
            Due.due("27: EDGES of court " + seed, x.now(2), o.edges);
            for (int i = 0; i < 6; i++) {
                Due.due("27: listed(" + i + ") of court " + seed, x.listed(i), o.list[i]);
            }
            for (int d = 0; d < o.all.size(); d++) {
                Due.due("27: RIGHT of " + d + " of court " + seed, x.of(d, 4), o.all.get(d).right);
                Due.due("27: TEMPER of " + d + " of court " + seed, x.of(d, 2), o.all.get(d).temper);
            }
        }
    }

    private static void tossFindings() {
        ToastCourt x = new ToastCourt();
        for (int n : new int[] {0, -1, 21, Integer.MAX_VALUE, Integer.MIN_VALUE}) {
            Due.finds(x, "27: toss(" + n + ")", () -> x.toss(n), Due.BEYOND);
        }
        Due.due("27: toss(20)", x.toss(20), 0);
        Due.due("27: DROP", x.now(0), 20);
        // STATE is tested where DropsTest comes to the last DROP.
    }

    private static void oddsByHand() {
        ToastCourt x = new ToastCourt();
        x.disputant(2, 10);
        x.disputant(2, 90);
        // Turns are HEIGHT: 28 of 60 fall for 0, 28 for 1, 4 stand.
        long[] above = {1, 7, 49, 343};
        long[] below = {1, 15, 225, 3375};
        for (int n = 0; n < 4; n++) {
            Due.due("28: odds(0, 1, " + n + ", 0)", x.odds(0, 1, n, 0), above[n]);
            Due.due("28: odds(0, 1, " + n + ", 1)", x.odds(0, 1, n, 1), below[n]);
            Due.due("28: odds(1, 0, " + n + ", 0)", x.odds(1, 0, n, 0), above[n]);
        }
        Due.due("28: odds(0, 1, 10, 0)", x.odds(0, 1, 10, 0), 282475249L);
        Due.due("28: odds(0, 1, 10, 1)", x.odds(0, 1, 10, 1), 576650390625L);
        x.set(1, 9);
        // Turns are a seventh of HEIGHT, 0 to 8: 2, 4 and 6 with 7 heights each and 8 with 5.
        Due.due("28: odds(0, 1, 1, 0), spread 9", x.odds(0, 1, 1, 0), 13);
        Due.due("28: odds(0, 1, 1, 1), spread 9", x.odds(0, 1, 1, 1), 30);
        Due.due("28: odds(1, 0, 1, 0), spread 9", x.odds(1, 0, 1, 0), 7);
        Due.due("28: odds(1, 0, 1, 1), spread 9", x.odds(1, 0, 1, 1), 15);
        x.change(0, 5, 1);
        Due.due("28: odds(0, 1, 1, 0), one silent", x.odds(0, 1, 1, 0), 13);
        Due.due("28: HEIGHT is as it was", x.court(0), 12);
        Due.due("28: z is as it was", x.count(6), 1);
        Due.due("28: no finding", x.status(-1), 0);
    }

    private static void oddsAgainstTheOracle() {
        for (long seed = 0; seed < 300; seed++) {
            ToastCourt x = Oracle.anyCourt(seed);
            for (int a = 0; a < x.count(1); a++) {
                int b = (a + 1) % x.count(1);
                if (a == b) {
                    continue;
                }
                Oracle o = Oracle.of(x);
                int good = 0;
                for (int h = 1; h <= 60; h++) {
                    good += o.falls(h, o.all.get(a), o.all.get(b)) == o.all.get(a) ? 1 : 0;
                }
                int n = (int) (seed % 11);
                BigInteger above = BigInteger.valueOf(good).pow(n);
                BigInteger below = BigInteger.valueOf(60).pow(n);
                BigInteger common = above.gcd(below);
                Due.due("28: above of court " + seed, x.odds(a, b, n, 0), above.divide(common).longValueExact());
                Due.due("28: below of court " + seed, x.odds(a, b, n, 1), below.divide(common).longValueExact());
            }
        }
        // Turns from 60 heights are never all odd or all even, so the odds are never none or all.
    }

    private static void oddsFindings() {
        ToastCourt x = new ToastCourt();
        x.disputant(2, 10);
        x.disputant(2, 90);
        int[][] bad = {{0, 0, 1, 0}, {1, 1, 1, 1}, {0, 2, 1, 0}, {2, 0, 1, 0}, {-1, 0, 1, 0}, {0, -1, 1, 0},
            {0, 1, -1, 0}, {0, 1, 11, 0}, {0, 1, 1, -1}, {0, 1, 1, 2}};
        for (int[] b : bad) {
            Due.finds(x, "28: odds(" + b[0] + ", " + b[1] + ", " + b[2] + ", " + b[3] + ")",
                () -> x.odds(b[0], b[1], b[2], b[3]), Due.BEYOND);
        }
    }

    private static void seed() {
        ToastCourt x = new ToastCourt();
        Due.due("29: seed(0)", x.seed(0), 1);
        Due.due("29: seed(least)", x.seed(Integer.MIN_VALUE), 0);
        Due.due("29: seed(-1000001)", x.seed(-1000001), Integer.MIN_VALUE);
        Due.due("29: count(6)", x.count(6), -1000001);
        Due.due("29: seed(5)", x.seed(5), -1000001);
        Due.due("29: no finding", x.status(-1), 0);
        ToastCourt y = new ToastCourt();
        y.toss(7);
        int z = y.seed(1);
        y.toss(7);
        Due.due("29: the same draws", y.count(6), z);
    }
}
