/** Promises 24 to 29, sentence by sentence, at their edges. */
public final class EdgesToldTest {
    public static void main(String[] args) {
        whichSheet();
        missing();
        whichOne();
        allAndNone();
        wrongNow();
        behindEachDrop();
        kindsOfOne();
        anyOfBits();
        mostWrong();
        tossHowMany();
        tossState();
        tossPlace();
        oddsTwo();
        oddsHowManyAndWhat();
        oddsInLowestTerms();
        seedAny();
        Due.end("EdgesToldTest");
    }

    /** Two lawyers, and in each sheet 0, 1: found WRONG at the next DROP. */
    private static void told(ToastCourt x) {
        Made.lawyers(x);
        for (int s = 0; s < 4; s++) {
            row(x, s, 16, new int[] {0, 1});
        }
    }

    private static void row(ToastCourt x, int s, int bits, int[] row) {
        x.sheet(s, bits, row.length);
        for (int i = 0; i < row.length; i++) {
            x.write(s, i, row[i]);
        }
    }

    private static void fits(String when, Edge.Making making, int s, int d, int[] want) {
        Edge.told("24: fits " + when, making, x -> x.fits(s, d), want[0]);
        Edge.told("25: height " + when, making, x -> x.height(s, d), want[1]);
        Edge.told("26: kinds " + when, making, x -> x.kinds(s, d), want[2]);
    }

    /** 24, 25, 26: "BEYOND: no such sheet." */
    private static void whichSheet() {
        // Even TURNS fall for 0 but 26 and 52. As 0 14 TURNS fall for it, and as 2, 3, 4 12.
        Edge.range("24: fits(s, 0)", EdgesToldTest::told, (x, s) -> x.fits(s, 0), Edge.ends(0, 3), Edge.wants(28, 28));
        Edge.range("25: height(s, 0)", EdgesToldTest::told, (x, s) -> x.height(s, 0), Edge.ends(0, 3), Edge.wants(2,
            2));
        int kinds = Edge.made(EdgesToldTest::told).kinds(0, 0);
        Edge.range("26: kinds(s, 0)", EdgesToldTest::told, (x, s) -> x.kinds(s, 0), Edge.ends(0, 3),
            Edge.wants(kinds, kinds));
    }

    /** 24, 25, 26: "MISSING.", asked behind "no such sheet" and ahead of "no such one". */
    private static void missing() {
        int[] missing = {Due.MISSING, Due.MISSING, Due.MISSING};
        int[] beyond = {Due.BEYOND, Due.BEYOND, Due.BEYOND};
        for (int d : new int[] {-1, 0, 7, 8}) {
            fits("of sheet 3 and " + d, Made::full, 3, d, missing);
            fits("of sheet 4 and " + d, Made::full, 4, d, beyond);
            fits("of sheet -1 and " + d, Made::full, -1, d, beyond);
            for (int s = 0; s < 4; s++) {
                fits("of sheet " + s + " and " + d + " at first", Made::nothing, s, d, missing);
            }
        }
        fits("of a sheet that is missing again", x -> {
            told(x);
            x.sheet(1, 0, 0);
        }, 1, 0, missing);
    }

    /** 24, 25, 26: "BEYOND: no such one." */
    private static void whichOne() {
        Edge.range("24: fits(0, disputant)", EdgesToldTest::told, (x, d) -> x.fits(0, d), Edge.ends(0, 1),
            Edge.wants(28, 28));
        Edge.range("25: height(0, disputant)", EdgesToldTest::told, (x, d) -> x.height(0, d), Edge.ends(0, 1),
            Edge.wants(2, 1));
        Edge.range("26: kinds(0, disputant)", x -> {
            told(x);
            x.sheet(0, 16, 0);
        }, (x, d) -> x.kinds(0, d), Edge.ends(0, 1), Edge.wants(127, 127));
        fits("of an empty sheet and nobody", x -> x.sheet(0, 8, 0), 0, 0,
            new int[] {Due.BEYOND, Due.BEYOND, Due.BEYOND});
        // No such one is asked ahead of NONE.
        fits("of 99 now", x -> wrongIs(x, 8, 0, 99), 0, 0, new int[] {0, Due.NONE, 0});
        fits("of 99 now and no such one", x -> wrongIs(x, 8, 0, 99), 0, 2, new int[] {Due.BEYOND, Due.BEYOND,
            Due.BEYOND});
    }

    /** 24: "How many HEIGHTS (1 to 60)": all, none, the last alone; 25: "The least of them .. NONE." */
    private static void allAndNone() {
        int[] all = {60, 1, 127};
        fits("of an empty sheet", x -> {
            Made.lawyers(x);
            x.sheet(0, 8, 0);
        }, 0, 0, all);
        fits("of 40 where nothing is dropped", EdgesToldTest::forty, 0, 0, all);
        fits("of 40, the last isn't so", x -> {
            forty(x);
            x.write(0, 39, 1);
        }, 0, 0, new int[] {0, Due.NONE, 0});
        Edge.Making highest = x -> {
            Made.highest(x);
            x.sheet(0, 8, 3);
        };
        Edge.told("24: fits of the highest alone", highest, x -> x.fits(0, 0), 1);
        Edge.told("25: height, the highest", highest, x -> x.height(0, 0), 60);
    }

    private static void forty(ToastCourt x) {
        Made.lawyers(x);
        Made.nothingListed(x);
        x.sheet(0, 8, 40);
    }

    private static void wrongIs(ToastCourt x, int bits, int wrong, int told) {
        Made.lawyers(x);
        x.change(0, 3, wrong);
        row(x, 0, bits, new int[] {told});
    }

    /** 24: "WRONG of one now": the sheet's first number. */
    private static void wrongNow() {
        int[] all = {60, 1, 127};
        int[] none = {0, Due.NONE, 0};
        for (int wrong : new int[] {0, 1, 5, 127}) {
            for (int off = -1; off <= 1; off++) {
                int told = wrong + off;
                // -1 is any.
                fits(told + " now of " + wrong, x -> wrongIs(x, 16, wrong, told), 0, 0,
                    off == 0 || told == -1 ? all : none);
            }
        }
        for (int told : new int[] {-2, -3, -32768}) {
            fits(told + " now of 0", x -> wrongIs(x, 16, 0, told), 0, 0, none);
        }
    }

    /** 24: "and behind each DROP further on": number i behind i DROPS, the 40th behind 39. */
    private static void behindEachDrop() {
        Edge.Making angry = x -> {
            Made.angry(x);
            x.sheet(0, 8, 40);
            for (int i = 0; i < 40; i++) {
                x.write(0, i, i);
            }
        };
        int least = 0;
        int fitting = 0;
        for (int h = 60; h >= 1; h--) {
            Oracle o = Oracle.of(Edge.made(angry));
            o.height = h;
            if (o.go(39).all.get(0).wrong == 39) {
                least = h;
                fitting++;
            }
        }
        int leastTold = least;
        int fittingTold = fitting;
        Edge.told("24: fits of 0 to 39", angry, x -> x.fits(0, 0), fittingTold);
        Edge.told("25: height of 0 to 39", angry, x -> x.height(0, 0), leastTold);
        Edge.told("26: kinds of 0 to 39, an AUNT is one", angry, x -> x.kinds(0, 0) & 2, 2);
        for (int i : new int[] {0, 1, 38, 39}) {
            for (int off : new int[] {-3, 1}) {
                Edge.Making isNot = x -> {
                    angry.make(x);
                    x.write(0, i, i + off);
                };
                fits("of 0 to 39 but " + i, isNot, 0, 0, new int[] {0, Due.NONE, 0});
            }
            Edge.Making any = x -> {
                angry.make(x);
                x.write(0, i, -1);
            };
            Edge.told("24: fits of 0 to 39, any for " + i, any, x -> x.fits(0, 0) >= fittingTold ? 1 : 0, 1);
        }
    }

    /** 26: "KINDS that one could be of, as a set": of HEIGHT as it is, each KIND apart. */
    private static void kindsOfOne() {
        // 12 TURNS and the jolts of 0: 14 as 0, 15 as 1 and 6, 12 as 2, 3 and 4, 17 as 5. Even ones fall for
        // 0, who presses less than 93 as any of them; odd ones don't.
        int even = 1 + 4 + 8 + 16;
        for (int kind = 0; kind < 7; kind++) {
            int its = kind;
            for (int wrong = 0; wrong < 2; wrong++) {
                int[] row = {0, wrong};
                Edge.told("26: kinds of 0, " + wrong + " of a " + kind, x -> {
                    x.disputant(its, 10);
                    x.disputant(2, 90);
                    row(x, 0, 8, row);
                }, x -> x.kinds(0, 0), wrong == 1 ? even : 127 - even);
            }
        }
    }

    /** 24: "(-1: any)" of 8, 16 and 32 bits, by their lowest bits. */
    private static void anyOfBits() {
        int[] all = {60, 1, 127};
        int[] none = {0, Due.NONE, 0};
        int[][] rows = {{8, -1, 1}, {8, 255, 1}, {8, 511, 1}, {8, 254, 0}, {8, 65535, 1}, {16, -1, 1}, {16, 255, 0},
            {16, 65535, 1}, {16, 65534, 0}, {32, -1, 1}, {32, 255, 0}, {32, 65535, 0}, {32, Edge.MOST, 0},
            {32, Edge.LEAST, 0}, {8, 256, 0}, {8, 256 + 3, 2}, {16, 65536 + 3, 2}, {32, 65536 + 3, 0}};
        for (int[] r : rows) {
            fits(r[1] + " of " + r[0] + " bits", x -> wrongIs(x, r[0], 3, r[1]), 0, 0, r[2] > 0 ? all : none);
        }
    }

    /** WRONG at most 9999, and told by 16 bits. */
    private static void mostWrong() {
        fits("of 9999 thrice", x -> {
            Made.lawyers(x);
            x.change(0, 3, 9999);
            row(x, 0, 16, new int[] {9999, 9999, 9999});
        }, 0, 0, new int[] {60, 1, 127});
        Edge.told("24: fits of 9998, 9999, 9999", x -> {
            Made.lawyers(x);
            x.change(0, 3, 9998);
            row(x, 0, 16, new int[] {9998, 9999, 9999});
        }, x -> x.fits(0, 0), 28);
    }

    /** 27: "n times (1 to 20) three draws .. BEYOND." */
    private static void tossHowMany() {
        Edge.range("27: toss(n) of nobody", Made::nothing, (x, n) -> x.toss(n), Edge.ends(1, 20), Edge.wants(0, 0));
        ToastCourt one = Edge.made(Made::full);
        ToastCourt more = Edge.made(Made::full);
        for (int k = 0; k < 19; k++) {
            more.toss(1);
        }
        Edge.range("27: toss(n), full", Made::full, (x, n) -> x.toss(n), Edge.ends(1, 20),
            Edge.wants(one.toss(1), more.toss(1)));
        for (int n : new int[] {1, 2, 19, 20}) {
            Edge.answers("27: toss(" + n + "), then DROP", Made::full, x -> Edge.then(x.toss(n), x.now(0)), 11 + n);
            Edge.same("27: toss(" + n + ") and " + n + " times toss(1)", x -> {
                Made.full(x);
                x.toss(n);
            }, x -> {
                Made.full(x);
                for (int k = 0; k < n; k++) {
                    x.toss(1);
                }
            });
        }
    }

    /** 27: "STATE: DROP would be above 99999.", asked behind BEYOND. */
    private static void tossState() {
        Edge.state("27: toss", (x, n) -> x.toss(n), 20);
    }

    /** 27: "THE LIST tells for this DROP": the place of DROP modulo 6 and no other. */
    private static void tossPlace() {
        // The first draw is 4310654, which leaves 6 by 8.
        for (int drop : new int[] {0, 1, 5, 6, 7, 11, 12}) {
            for (int place = 0; place < 6; place++) {
                int at = drop;
                int asked = place;
                Edge.answers("27: listed(" + place + ") behind toss(1) at DROP " + drop, x -> {
                    Made.nothingListed(x);
                    if (at > 0) {
                        x.go(at);
                    }
                    x.toss(1);
                }, x -> x.listed(asked) / 10, drop - place == 0 || drop - place == 6 || drop - place == 12 ? 6 : 7);
            }
        }
    }

    /** 28: "BEYOND: also one and the same." */
    private static void oddsTwo() {
        Edge.Making three = x -> {
            Made.lawyers(x);
            x.disputant(2, 30);
        };
        Edge.range("28: odds(a, 1, 1, 0)", three, (x, a) -> x.odds(a, 1, 1, 0), Edge.ends(0, 2), Edge.wants(7, 7));
        Edge.range("28: odds(1, b, 1, 1)", three, (x, b) -> x.odds(1, b, 1, 1), Edge.ends(0, 2), Edge.wants(15, 15));
        for (int d = -1; d <= 3; d++) {
            int one = d;
            for (int what = 0; what < 2; what++) {
                int w = what;
                Edge.refuses("28: odds(" + d + ", " + d + ", 1, " + w + ")", three, x -> x.odds(one, one, 1, w),
                    Due.BEYOND);
            }
        }
        Edge.refuses("28: odds(0, 1, 0, 0) of one alone", x -> x.disputant(0, 0), x -> x.odds(0, 1, 0, 0), Due.BEYOND);
        for (int silent = 1; silent < 4; silent++) {
            int set = silent;
            Edge.told("28: odds(0, 1, 1, 0), silent " + set, x -> {
                Made.lawyers(x);
                x.change(0, 5, set & 1);
                x.change(1, 5, set >> 1);
            }, x -> x.odds(0, 1, 1, 0), 7);
        }
    }

    /** 28: "from n (0 to 10) HEIGHTS", "above (what 0), below the line (1)". */
    private static void oddsHowManyAndWhat() {
        Edge.range("28: odds(0, 1, n, 0)", Made::lawyers, (x, n) -> x.odds(0, 1, n, 0), Edge.ends(0, 10),
            Edge.wants(1, 282475249L));
        Edge.range("28: odds(0, 1, n, 1)", Made::lawyers, (x, n) -> x.odds(0, 1, n, 1), Edge.ends(0, 10),
            Edge.wants(1, 576650390625L));
        Edge.range("28: odds(0, 1, 2, what)", Made::lawyers, (x, what) -> x.odds(0, 1, 2, what), Edge.ends(0, 1),
            Edge.wants(49, 225));
        Edge.range("28: odds(0, 1, 0, what)", Made::lawyers, (x, what) -> x.odds(0, 1, 0, what), Edge.ends(0, 1),
            Edge.wants(1, 1));
        Edge.leaves("28: odds, full", Made::full, x -> x.odds(0, 7, 10, 1));
    }

    /** 28: "a fraction in lowest terms": also where nothing can be taken out, and 60 to the 10th stands below. */
    private static void oddsInLowestTerms() {
        boolean[] seen = new boolean[61];
        for (int spread = 0; spread <= 9; spread++) {
            for (int temper = 0; temper < 100; temper += 10) {
                for (int first = 0; first < 2; first++) {
                    lowestTerms(spread, temper, first, seen);
                }
            }
        }
        int without = 0;
        for (int good = 1; good < 60; good++) {
            without += seen[good] && good % 2 != 0 && good % 3 != 0 && good % 5 != 0 ? 1 : 0;
        }
        Due.due("28: some with nothing to take out were seen", without > 0 ? 1 : 0, 1);
    }

    private static void lowestTerms(int spread, int temper, int first, boolean[] seen) {
        ToastCourt x = new ToastCourt();
        x.disputant(0, 10);
        x.disputant(2, 90);
        x.change(0, 2, temper);
        x.set(1, spread);
        int good = 0;
        for (int h = 1; h <= 60; h++) {
            int turns = h * (10 - spread) / 7 + temper / 10;
            boolean isForFirst = (turns % 2 == 0) == (first == 0);
            good += turns % 13 != 0 && isForFirst ? 1 : 0;
        }
        seen[good] = true;
        java.math.BigInteger above = java.math.BigInteger.valueOf(good).pow(10);
        java.math.BigInteger below = java.math.BigInteger.valueOf(60).pow(10);
        java.math.BigInteger common = above.gcd(below);
        String call = "28: odds(" + first + ", .., 10) with " + good + " of 60";
        Due.due(call + ", above", x.odds(first, 1 - first, 10, 0), above.divide(common).longValueExact());
        Due.due(call + ", below", x.odds(first, 1 - first, 10, 1), below.divide(common).longValueExact());
    }

    /** 29: "z becomes v: what it was.": any number, a finding's too, which is none here. */
    private static void seedAny() {
        Edge.answers("29: seed(5) at first", Made::nothing, x -> x.seed(5), 1);
        for (int v : new int[] {0, 1, -1, Edge.MOST, Edge.LEAST, Due.BEYOND, Due.NONE, Due.SIZE}) {
            Edge.answers("29: seed(" + v + ")", Made::full, x -> x.seed(v), -77);
            Edge.answers("29: seed(" + v + "), then count(6)", Made::full, x -> Edge.then(x.seed(v), x.count(6)), v);
            Edge.answers("29: seed(" + v + ") twice", Made::full, x -> Edge.then(x.seed(v), x.seed(0)), v);
            Edge.leaves("29: seed(" + v + ") and back", Made::full, x -> x.seed(x.seed(v)));
        }
    }
}
