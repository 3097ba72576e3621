/** Objects that the tests of the sentences' edges begin with. */
final class Made {
    private Made() {
    }

    static void nothing(ToastCourt x) {
    }

    /** Two who give no jolts: with SPREAD 3 TURNS are HEIGHT, and 12 fall for 0, who presses less. */
    static void lawyers(ToastCourt x) {
        x.disputant(2, 10);
        x.disputant(2, 20);
    }

    /** Two lawyers, whose slice stands at each DROP. */
    static void standing(ToastCourt x) {
        lawyers(x);
        x.set(0, 13);
    }

    /** An aunt who is found WRONG at each DROP: 11 TURNS and the 10 that she jolts are odd. */
    static void angry(ToastCourt x) {
        x.disputant(1, 99);
        x.disputant(2, 10);
        x.change(0, 2, 99);
        x.set(0, 11);
    }

    /** 60 is the one HEIGHT whose slice stands (17 TURNS and 9) and then falls for the other one (17 and 8). */
    static void highest(ToastCourt x) {
        x.disputant(0, 0);
        x.disputant(2, 99);
        x.change(0, 2, 90);
        x.set(1, 8);
    }

    static void nothingListed(ToastCourt x) {
        for (int i = 0; i < 6; i++) {
            x.dispute(i, 7, 7);
        }
    }

    /**
     * Eight of them, of all kinds, at DROP 11 with HEIGHT 32, SPREAD 7 and EDGES 2; little is as at
     * first, and an image is kept that is other in all but who is there.
     */
    static void full(ToastCourt x) {
        for (int d = 0; d < 8; d++) {
            x.disputant(d % 7, 7 * d + 1);
        }
        x.change(1, 5, 1);
        x.hold(0, 7);
        x.hold(9, 3);
        // A lawyer's and a parson's slice stands from 13 where DROP is even.
        x.dispute(0, 2, 3);
        x.set(0, 13);
        x.seed(4711);
        x.go(4);
        x.set(0, 31);
        x.image();
        x.toss(2);
        x.set(0, 13);
        x.go(5);
        x.change(1, 5, 0);
        x.change(6, 5, 1);
        x.change(2, 0, 4);
        for (int d = 0; d < 8; d++) {
            x.change(d, 1, 11 * d + 2);
            x.change(d, 2, 91 - 7 * d);
            x.change(d, 3, 30 + d);
            x.change(d, 4, 37 - d);
        }
        for (int i = 0; i < 5; i++) {
            x.dispute(i, i, i + 2);
        }
        x.dispute(5, 7, 1);
        x.hold(0, -1);
        x.hold(4, 2);
        x.set(0, 32);
        x.set(1, 7);
        x.seed(-77);
        sheets(x);
        Due.feed(x, "height 9;spread 1;dispute 4 5 6");
        findings(x);
    }

    /** Of 8, 16 and 32 bits; 3 is MISSING. */
    private static void sheets(ToastCourt x) {
        int[][] rows = {{11, 12, 13}, {21, 22, 23, 24}, {31, 32}};
        for (int s = 0; s < 3; s++) {
            x.sheet(s, 8 << s, rows[s].length);
            for (int i = 0; i < rows[s].length; i++) {
                x.write(s, i, rows[s][i]);
            }
        }
    }

    /** Each but STATE at least once, and not all as often. */
    private static void findings(ToastCourt x) {
        x.court(9);
        x.court(9);
        x.disputant(0, 0);
        x.as(4, 6);
        x.height(0, 0);
        x.load(3);
        x.sheet(0, 8, -1);
        x.load(3);
    }

    /** DROP is 99999 less so many: more calls than an object is promised for, but no fewer come there. */
    static void late(ToastCourt x, int before) {
        int left = 99999 - before;
        while (left > 0) {
            int n = Math.min(left, 60);
            x.go(n);
            left -= n;
        }
    }
}
