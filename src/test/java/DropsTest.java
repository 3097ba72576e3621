/** Promises 11 and 12: drops, and what is seen of them. */
public final class DropsTest {
    public static void main(String[] args) {
        byHand();
        bounds();
        fallingOut();
        listByDrop();
        againstTheOracle();
        goFindings();
        lastDrop();
        nowTold();
        nowEmpty();
        Due.end("DropsTest");
    }

    private static void byHand() {
        ToastCourt x = new ToastCourt();
        x.disputant(0, 50);
        x.disputant(0, 50);
        // 16 turns: of equals B.
        Due.due("11: go(1)", x.go(1), 1);
        ones(x, "11: after go(1)", new int[][] {{0, 50, 19, 0, 1, 0}, {0, 53, 25, 1, 0, 0}});
        // 12 and 1 and 2 turns are odd: who presses more.
        Due.due("11: go(1) again", x.go(1), 2);
        ones(x, "11: after go(1) again", new int[][] {{0, 50, 18, 0, 2, 0}, {0, 56, 30, 2, 0, 0}});
        // 12 and 1 and 3 are even: who presses less.
        Due.due("11: go(1) thrice", x.go(1), 3);
        ones(x, "11: after go(1) thrice", new int[][] {{0, 53, 23, 1, 2, 0}, {0, 56, 29, 2, 1, 0}});
        Due.due("11: DROP", x.now(0), 3);
        // 8 and 2 and 2 are even: 0 presses less; again 12 turns: of equals (56) B; 8 and 2 and 3 stand.
        x.set(0, 8);
        Due.due("11: go(3)", x.go(3), 5);
        ones(x, "11: after go(3)", new int[][] {{0, 56, 26, 2, 3, 0}, {0, 59, 32, 3, 2, 0}});
        Due.due("11: EDGES", x.now(2), 1);
    }

    private static void ones(ToastCourt x, String when, int[][] want) {
        for (int d = 0; d < want.length; d++) {
            for (int what = 0; what < 6; what++) {
                Due.due(when + " of(" + d + ", " + what + ")", x.of(d, what), want[d][what]);
            }
        }
    }

    private static void bounds() {
        ToastCourt x = new ToastCourt();
        x.disputant(0, 50);
        x.disputant(0, 98);
        x.change(0, 4, 9999);
        x.change(1, 3, 9999);
        x.change(1, 2, 97);
        x.change(0, 2, 0);
        x.set(0, 10);
        // 10 and 9 turns are odd: 1 presses more.
        x.go(1);
        Due.due("11: WRONG, RIGHT stay 9999, TEMPER and CAUSE 99", x.now(1), 9999);
        Due.due("11: RIGHT at most 9999", x.of(0, 4), 9999);
        Due.due("11: CAUSE at most 99", x.of(1, 1), 99);
        Due.due("11: TEMPER at most 99, then cools", x.of(1, 2), 98);
        Due.due("11: TEMPER at least 0", x.of(0, 2), 0);
        x.change(0, 0, 5);
        x.change(0, 2, 3);
        x.change(0, 5, 1);
        x.go(1);
        Due.due("11: a CHILD's TEMPER at least 0, silent or not", x.of(0, 2), 0);

        ToastCourt y = new ToastCourt();
        y.disputant(2, 1);
        y.disputant(2, 2);
        y.set(0, 13);
        for (int k = 0; k < 166; k++) {
            y.go(60);
        }
        Due.due("11: EDGES", y.now(2), 9960);
        y.go(39);
        Due.due("11: EDGES are 9999", y.now(2), 9999);
        Due.due("16: more EDGES can't be", y.stands(), Due.NONE);
        y.go(1);
        Due.due("11: EDGES stay 9999", y.court(2), 9999);
        Due.due("11: nobody was found wrong", y.now(1), 0);
    }

    private static void fallingOut() {
        int[][] rows = {{0, 0, 0}, {0, 2, 0}, {2, 0, 0}, {7, 7, 0}, {0, 1, 1}, {0, 1, 2}, {0, 1, 3}};
        for (int[] r : rows) {
            ToastCourt x = new ToastCourt();
            x.disputant(0, 50);
            x.disputant(5, 50);
            x.dispute(0, r[0], r[1]);
            x.change(0, 5, r[2] & 1);
            x.change(1, 5, r[2] >> 1);
            String what = " of " + r[0] + ", " + r[1] + ", silent " + r[2];
            Due.due("12: now(7)" + what, x.now(7), 1);
            Due.due("11: go(1)" + what, x.go(1), 0);
            Due.due("11: EDGES" + what, x.now(2), 0);
            ones(x, "11:" + what, new int[][] {{0, 50, 19, 0, 0, r[2] & 1}, {5, 50, 15, 0, 0, r[2] >> 1}});
            Due.due("11: DROP" + what, x.now(0), 1);
        }
    }

    private static void listByDrop() {
        ToastCourt x = new ToastCourt();
        x.disputant(2, 10);
        x.disputant(2, 20);
        x.disputant(2, 30);
        for (int i = 0; i < 6; i++) {
            x.dispute(i, 7, 7);
        }
        x.dispute(2, 1, 0);
        x.dispute(5, 2, 1);
        // 12 turns: who presses less.
        int[] wrongs = {0, 0, 1, 1, 1, 2, 2, 2, 3, 3, 3, 4};
        for (int k = 0; k < 12; k++) {
            Due.due("12: now(7) at DROP " + k, x.now(7), k % 6 == 2 || k % 6 == 5 ? 0 : 1);
            Due.due("11: go(1) at DROP " + k, x.go(1), wrongs[k]);
        }
        Due.due("11: WRONG of 0", x.of(0, 3), 2);
        Due.due("11: WRONG of 1", x.of(1, 3), 2);
        Due.due("11: RIGHT of 1", x.of(1, 4), 2);
        Due.due("11: RIGHT of 2", x.of(2, 4), 2);
    }

    private static void againstTheOracle() {
        for (long seed = 0; seed < 400; seed++) {
            ToastCourt x = Oracle.anyCourt(seed);
            Oracle o = Oracle.of(x);
            for (int n = 1; n <= 60; n += 1 + (int) seed % 7) {
                Due.due("11: go(" + n + ") of court " + seed, x.go(n), o.go(n).wrongs());
                same(x, o, "11: court " + seed + " behind " + n);
            }
        }
    }

    private static void same(ToastCourt x, Oracle o, String when) {
        Due.due(when + " DROP", x.now(0), o.drop);
        Due.due(when + " EDGES", x.now(2), o.edges);
        int more = 0;
        int tempers = 0;
        int most = -1;
        int loudest = -1;
        int silent = 0;
        for (int d = 0; d < o.all.size(); d++) {
            Oracle.One one = o.all.get(d);
            int[] want = {one.cause, one.temper, one.wrong, one.right, one.silent ? 1 : 0,
                one.presses(o), one.jolts(o), one.grows(), one.learns(), one.cools()};
            for (int what = 1; what < 11; what++) {
                Due.due(when + " of(" + d + ", " + what + ")", x.of(d, what), want[what - 1]);
            }
            more |= one.wrong > one.right ? 1 << d : 0;
            silent |= one.silent ? 1 << d : 0;
            tempers += one.temper;
            if (one.presses(o) > most) {
                most = one.presses(o);
                loudest = d;
            }
        }
        Due.due(when + " now(1)", x.now(1), o.wrongs());
        Due.due(when + " now(3)", x.now(3), more);
        Due.due(when + " now(4)", x.now(4), tempers);
        Due.due(when + " now(5)", x.now(5), loudest);
        Due.due(when + " now(6)", x.now(6), silent);
    }

    private static void goFindings() {
        ToastCourt x = new ToastCourt();
        for (int n : new int[] {0, -1, 61, Integer.MAX_VALUE, Integer.MIN_VALUE}) {
            Due.finds(x, "11: go(" + n + ")", () -> x.go(n), Due.BEYOND);
        }
        Due.due("11: go(60)", x.go(60), 0);
        Due.due("11: go(1)", x.go(1), 0);
        Due.due("11: DROP", x.now(0), 61);
    }

    /** More calls than an object is promised for, but no fewer come to the last DROP. */
    private static void lastDrop() {
        ToastCourt x = new ToastCourt();
        x.disputant(0, 50);
        for (int k = 0; k < 1666; k++) {
            x.go(60);
        }
        Due.finds(x, "11: go(40) from 99960", () -> x.go(40), Due.STATE);
        x.image();
        Due.due("11: go(39) from 99960", x.go(39), 0);
        Due.due("12: DROP", x.now(0), 99999);
        x.undo();
        x.go(20);
        Due.finds(x, "27: toss(20) from 99980", () -> x.toss(20), Due.STATE);
        Due.due("27: toss(19) from 99980", x.toss(19), 0);
        Due.due("12: DROP", x.now(0), 99999);
        Due.finds(x, "11: go(1) from 99999", () -> x.go(1), Due.STATE);
        Due.finds(x, "27: toss(1) from 99999", () -> x.toss(1), Due.STATE);
        Due.finds(x, "11: go(61) from 99999", () -> x.go(61), Due.BEYOND);
        Due.finds(x, "27: toss(21) from 99999", () -> x.toss(21), Due.BEYOND);
        Due.due("13: ahead(0, 2, 5) from 99999", x.ahead(0, 2, 5), 0);
    }

    private static void nowTold() {
        ToastCourt x = new ToastCourt();
        x.disputant(0, 60);
        x.disputant(1, 55);
        x.disputant(2, 57);
        x.change(1, 3, 4);
        x.change(1, 4, 4);
        x.change(2, 3, 5);
        x.change(2, 4, 4);
        x.change(0, 3, 1);
        x.change(0, 4, 3);
        x.change(0, 2, 31);
        // All three press 60: the least number counts.
        int[] want = {0, 10, 0, 4, 71, 0, 0, 0};
        for (int what = 0; what < 8; what++) {
            Due.due("12: now(" + what + ")", x.now(what), want[what]);
        }
        x.set(1, 4);
        Due.due("12: now(5) of the lawyer", x.now(5), 2);
        x.change(2, 5, 1);
        x.change(1, 5, 1);
        Due.due("12: now(5) of a silent one", x.now(5), 2);
        Due.due("12: now(6)", x.now(6), 6);
        for (int what : new int[] {-1, 8, Integer.MAX_VALUE, Integer.MIN_VALUE}) {
            Due.finds(x, "12: now(" + what + ")", () -> x.now(what), Due.BEYOND);
        }
    }

    private static void nowEmpty() {
        ToastCourt x = new ToastCourt();
        int[] want = {0, 0, 0, 0, 0, -1, 0, 1};
        for (int what = 0; what < 8; what++) {
            Due.due("12: now(" + what + ") of nobody", x.now(what), want[what]);
        }
        Due.due("12: -1 is no finding", x.status(-1), 0);
        x.disputant(0, 0);
        Due.due("12: now(5) of one who presses 0", x.now(5), 0);
    }
}
