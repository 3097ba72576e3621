/** Promises 33 to 39, sentence by sentence, at their edges. */
public final class EdgesSheetsTest {
    public static void main(String[] args) {
        holdSpotAndOne();
        holdBecomes();
        asSpotAndKind();
        asMissingAndKind();
        sheetWhichAndBits();
        sheetHowMany();
        sheetAllZero();
        sheetMissing();
        writeWhich();
        writeLowestBits();
        copyWhich();
        copyMissingAndKind();
        copyHowMany();
        copyAsTheyWere();
        loadWhich();
        loadEnds();
        judgeWhich();
        judgeFirst();
        Due.end("EdgesSheetsTest");
    }

    /** 33: "SPOTS 0 to 9"; one of them, or -1. "BEYOND." */
    private static void holdSpotAndOne() {
        Edge.range("33: hold(spot, 1)", Made::full, (x, spot) -> x.hold(spot, 1), Edge.ends(0, 9), Edge.wants(1, 1));
        Edge.range("33: hold(spot, -1)", Made::full, (x, spot) -> x.hold(spot, -1), Edge.ends(0, 9), Edge.wants(1, 1));
        Edge.range("33: hold(3, disputant)", Made::full, (x, d) -> x.hold(3, d), Edge.ends(-1, 7), Edge.wants(1, 1));
        Edge.range("33: hold(3, disputant) of two", Made::lawyers, (x, d) -> x.hold(3, d), Edge.ends(-1, 1),
            Edge.wants(1, 1));
        Edge.range("33: hold(3, disputant) of nobody", Made::nothing, (x, d) -> x.hold(3, d), Edge.ends(-1, -1),
            Edge.wants(1, 1));
    }

    /** 33: "A SPOT holds one, or nothing": that spot and no other, again and again. */
    private static void holdBecomes() {
        for (int spot : new int[] {0, 1, 8, 9}) {
            for (int d : new int[] {0, 7}) {
                ToastCourt x = Edge.made(Made::full);
                x.hold(spot, d);
                for (int other = 0; other < 10; other++) {
                    int held = other == 4 ? 2 : other == 9 ? 3 : Due.MISSING;
                    Due.due("33: spot " + other + " behind hold(" + spot + ", " + d + ")", x.as(other, 0),
                        other == spot ? d : held);
                }
                x.hold(spot, -1);
                Due.due("33: nothing in " + spot, x.as(spot, 0), Due.MISSING);
            }
        }
        ToastCourt x = Edge.made(Made::lawyers);
        for (int spot = 0; spot < 10; spot++) {
            Due.due("43: count(7)", x.count(7), spot);
            x.hold(spot, 1);
            x.hold(spot, 0);
        }
        Due.due("43: count(7) of all", x.count(7), 10);
        Edge.leaves("33: hold and back", Made::full, y -> Edge.then(y.hold(4, 7), y.hold(4, 2)));
        Edge.leaves("33: nothing instead of nothing", Made::full, y -> y.hold(0, -1));
    }

    /** 34: "as one of a kind (0 to 6): the number. BEYOND." */
    private static void asSpotAndKind() {
        // A bishop is no aunt, child or twin; of a spot 4 holds 2.
        Edge.range("34: as(spot, 0)", x -> {
            Made.full(x);
            x.hold(0, 5);
        }, (x, spot) -> x.as(spot, 0), Edge.ends(0, 9), Edge.wants(5, 3));
        Edge.range("34: as(2, kind)", x -> {
            Made.full(x);
            x.hold(2, 6);
        }, (x, kind) -> x.as(2, kind), Edge.ends(0, 6), Edge.wants(6, 6));
        for (int kind = 0; kind < 7; kind++) {
            int k = kind;
            boolean isSo = kind == 0 || kind == 2 || kind == 3 || kind == 4;
            Edge.told("34: as(4, " + kind + ") of a bishop", Made::full, x -> x.as(4, k), isSo ? 2 : Due.KIND);
        }
    }

    /** 34: "MISSING: it holds nothing. KIND: it isn't ..", in this order, behind BEYOND. */
    private static void asMissingAndKind() {
        for (int kind = 0; kind < 7; kind++) {
            int k = kind;
            Edge.refuses("34: as(0, " + kind + ") of nothing", Made::full, x -> x.as(0, k), Due.MISSING);
        }
        for (int kind : new int[] {-1, 7}) {
            Edge.refuses("34: as(0, " + kind + ") of nothing", Made::full, x -> x.as(0, kind), Due.BEYOND);
            Edge.refuses("34: as(4, " + kind + ")", Made::full, x -> x.as(4, kind), Due.BEYOND);
            Edge.refuses("34: as(10, " + kind + ")", Made::full, x -> x.as(10, kind), Due.BEYOND);
        }
        // As it is now, not as it was when it was put there.
        Edge.answers("34: as(4, 5) of one that is a child now", Made::full,
            x -> Edge.then(x.change(2, 0, 5), x.as(4, 5)), 2);
        Edge.refuses("34: as(4, 4) of one that is a child now", x -> {
            Made.full(x);
            x.change(2, 0, 5);
        }, x -> x.as(4, 4), Due.KIND);
    }

    /** 35: "BEYOND: no such sheet, other bits.", asked ahead of SIZE. */
    private static void sheetWhichAndBits() {
        for (int n : new int[] {-1, 0, 40, 41}) {
            for (int s : new int[] {Edge.LEAST, -1, 4, Edge.MOST}) {
                Edge.refuses("35: sheet(" + s + ", 8, " + n + ")", Made::full, x -> x.sheet(s, 8, n), Due.BEYOND);
                Edge.refuses("35: sheet(" + s + ", 0, " + n + ")", Made::full, x -> x.sheet(s, 0, n), Due.BEYOND);
            }
            for (int bits : new int[] {Edge.LEAST, -32, -16, -8, -1, 1, 4, 7, 9, 15, 17, 24, 31, 33, 64, Edge.MOST}) {
                Edge.refuses("35: sheet(1, " + bits + ", " + n + ")", Made::full, x -> x.sheet(1, bits, n), Due.BEYOND);
            }
        }
        for (int s : new int[] {0, 3}) {
            for (int bits : new int[] {8, 16, 32}) {
                Edge.answers("35: sheet(" + s + ", " + bits + ", 5)", Made::full, x -> x.sheet(s, bits, 5), 5);
            }
        }
    }

    /** 35: "SIZE: n is below 0 (also with bits 0). BEYOND: n is above 40." */
    private static void sheetHowMany() {
        for (int bits : new int[] {0, 8, 16, 32}) {
            for (int s : new int[] {1, 3}) {
                String call = "35: sheet(" + s + ", " + bits + ", ";
                for (int n : new int[] {-1, -40, Edge.LEAST}) {
                    Edge.refuses(call + n + ")", Made::full, x -> x.sheet(s, bits, n), Due.SIZE);
                }
                for (int n : new int[] {41, 42, Edge.MOST}) {
                    Edge.refuses(call + n + ")", Made::full, x -> x.sheet(s, bits, n), Due.BEYOND);
                }
                for (int n : new int[] {0, 1, 39, 40}) {
                    Edge.answers(call + n + ")", Made::full, x -> x.sheet(s, bits, n), bits == 0 ? 0 : n);
                }
            }
        }
    }

    /** 35: "A sheet has n numbers, all 0": whatever stood there before, and no more than n. */
    private static void sheetAllZero() {
        for (int bits : new int[] {8, 16, 32}) {
            for (int n : new int[] {0, 1, 39, 40}) {
                ToastCourt x = Edge.made(Made::lawyers);
                x.sheet(2, 8, 40);
                for (int i = 0; i < 40; i++) {
                    x.write(2, i, 77);
                }
                x.sheet(2, bits, n);
                String when = " of " + n + " with " + bits + " bits";
                Due.due("35: just so many" + when, x.copy(2, 0, 2, 0, n), n);
                Due.due("35: not one more" + when, x.copy(2, 0, 2, 0, n + 1), Due.BEYOND);
                Due.due("35: all 0" + when, Edge.numbers(x, 2).equals("0 ".repeat(n).trim()) ? 1 : 0, 1);
            }
        }
        // A shorter one, then a longer one: what stood behind its end is 0, too.
        ToastCourt x = Edge.made(Made::lawyers);
        x.sheet(0, 8, 3);
        x.write(0, 2, 9);
        x.sheet(0, 8, 1);
        x.sheet(0, 8, 3);
        Due.due("35: nothing is left over", Edge.numbers(x, 0).equals("0 0 0") ? 1 : 0, 1);
        // The same once more: all 0 again.
        x.write(0, 1, 9);
        x.sheet(0, 8, 3);
        Due.due("35: the same once more", Edge.numbers(x, 0).equals("0 0 0") ? 1 : 0, 1);
    }

    /** 35: "bits 0: it is MISSING": whatever n is, and again where it was so. */
    private static void sheetMissing() {
        for (int n : new int[] {0, 3, 40}) {
            for (int s = 0; s < 4; s++) {
                int which = s;
                Edge.Making making = x -> {
                    Made.full(x);
                    x.sheet(which, 0, n);
                };
                Edge.refuses("35: load(" + s + ") behind sheet(" + s + ", 0, " + n + ")", making,
                    x -> x.load(which), Due.MISSING);
            }
        }
        Edge.leaves("35: sheet(3, 0, 5) of one that is missing", Made::full, x -> x.sheet(3, 0, 5));
        Edge.leaves("35: a sheet that comes and goes", Made::full, x -> Edge.then(x.sheet(3, 8, 5), x.sheet(3, 0, 0)));
    }

    /** 36: "BEYOND: no such sheet. MISSING. BEYOND: no such number." */
    private static void writeWhich() {
        for (int i : new int[] {-1, 0, 40}) {
            for (int s : new int[] {Edge.LEAST, -1, 4, Edge.MOST}) {
                Edge.refuses("36: write(" + s + ", " + i + ", 1)", Made::full, x -> x.write(s, i, 1), Due.BEYOND);
            }
            Edge.refuses("36: write(3, " + i + ", 1)", Made::full, x -> x.write(3, i, 1), Due.MISSING);
        }
        int[] sizes = {3, 4, 2};
        for (int s = 0; s < 3; s++) {
            int which = s;
            Edge.range("36: write(" + s + ", i, 1)", Made::full, (x, i) -> x.write(which, i, 1),
                Edge.ends(0, sizes[s] - 1), Edge.wants(1, 1));
        }
        Edge.Making forty = x -> x.sheet(3, 8, 40);
        Edge.range("36: write(3, i, 1) of 40", forty, (x, i) -> x.write(3, i, 1), Edge.ends(0, 39), Edge.wants(1, 1));
        Edge.refuses("36: write(3, 0, 1) of none", x -> x.sheet(3, 8, 0), x -> x.write(3, 0, 1), Due.BEYOND);
        ToastCourt x = Edge.made(Made::full);
        x.write(1, 3, 99);
        x.write(1, 0, 88);
        Due.due("36: those and no other", Edge.numbers(x, 1).equals("88 22 23 99") ? 1 : 0, 1);
    }

    /** 36: "becomes v (its lowest bits)": around the ends of 8, 16 and 32 bits. */
    private static void writeLowestBits() {
        // Bits, v, what it is then (with its sign).
        int[][] rows = {{8, 127, 127}, {8, 128, -128}, {8, 255, -1}, {8, 256, 0}, {8, 257, 1}, {8, -1, -1},
            {8, -128, -128}, {8, -129, 127}, {8, -255, 1}, {8, -256, 0}, {8, Edge.MOST, -1}, {8, Edge.LEAST, 0},
            {8, 355, 99}, {8, 65536 + 50, 50},
            {16, 127, 127}, {16, 128, 128}, {16, 255, 255}, {16, 256, 256}, {16, 9999, 9999}, {16, 32767, 32767},
            {16, 32768, -32768}, {16, 65535, -1}, {16, 65536, 0}, {16, 65537, 1}, {16, -1, -1}, {16, -32769, 32767},
            {16, -65536, 0}, {16, Edge.MOST, -1}, {16, Edge.LEAST, 0}, {16, 65536 + 9999, 9999},
            {32, 65536, 65536}, {32, 9999, 9999}, {32, -1, -1}, {32, Edge.MOST, Edge.MOST}, {32, Edge.LEAST,
            Edge.LEAST},
            {32, 65536 + 9999, 65536 + 9999}};
        for (int[] r : rows) {
            Edge.Making making = x -> {
                x.disputant(0, 50);
                x.sheet(0, r[0], 1);
                x.write(0, 0, r[1]);
            };
            String when = " of " + r[1] + " in " + r[0] + " bits";
            Edge.answers("36: load(0)" + when, making, x -> x.load(0), r[2] >= 0 && r[2] <= 99 ? 1 : 0);
            Edge.answers("36: any" + when, x -> {
                making.make(x);
                x.change(0, 3, 9998);
            }, x -> x.fits(0, 0), r[2] == -1 ? 60 : 0);
            for (int wrong : new int[] {0, 1, 127, 128, 255, 256, 9999}) {
                Edge.answers("36: judge(0) of " + wrong + when, x -> {
                    making.make(x);
                    x.change(0, 3, wrong);
                }, x -> x.judge(0), r[2] == wrong ? 0 : 1);
            }
        }
    }

    /** 37: "BEYOND: no such sheet (either).", ahead of all others. */
    private static void copyWhich() {
        for (int s : new int[] {Edge.LEAST, -1, 4, Edge.MOST}) {
            for (int other : new int[] {0, 1, 3, 4, -1}) {
                for (int n : new int[] {-1, 0, 99}) {
                    Edge.refuses("37: copy(" + s + ", 0, " + other + ", 0, " + n + ")", Made::full,
                        x -> x.copy(s, 0, other, 0, n), Due.BEYOND);
                    Edge.refuses("37: copy(" + other + ", 0, " + s + ", 0, " + n + ")", Made::full,
                        x -> x.copy(other, 0, s, 0, n), Due.BEYOND);
                }
            }
        }
        for (int s : new int[] {0, 3}) {
            for (int t : new int[] {0, 3}) {
                Edge.answers("37: copy(" + s + ", 0, " + t + ", 1, 1)", x -> {
                    x.sheet(0, 8, 2);
                    x.sheet(3, 8, 2);
                }, x -> x.copy(s, 0, t, 1, 1), 1);
            }
        }
    }

    /** 37: "MISSING: one is. KIND: they are not of as many bits.", ahead of "one has not so many". */
    private static void copyMissingAndKind() {
        int[][] places = {{0, 0, 0}, {0, 0, 1}, {-1, 0, 1}, {0, -1, 1}, {0, 0, -1}, {0, 0, 99}, {99, 99, 1}};
        for (int[] p : places) {
            String in = " of " + p[0] + ", " + p[1] + ", " + p[2];
            for (int s = 0; s < 4; s++) {
                int one = s;
                Edge.refuses("37: copy from 3 to " + s + in, Made::full, x -> x.copy(3, p[0], one, p[1], p[2]),
                    Due.MISSING);
                Edge.refuses("37: copy from " + s + " to 3" + in, Made::full, x -> x.copy(one, p[0], 3, p[1], p[2]),
                    Due.MISSING);
                for (int t = 0; t < 3; t++) {
                    int other = t;
                    if (s < 3 && s != t) {
                        Edge.refuses("37: copy from " + s + " to " + t + in, Made::full,
                            x -> x.copy(one, p[0], other, p[1], p[2]), Due.KIND);
                    }
                }
            }
        }
    }

    /** Sheets 0 (1 to 6), 1 (7 to 10) and 2 (none), of as many bits. */
    private static void rows(ToastCourt x) {
        Made.lawyers(x);
        x.sheet(0, 16, 6);
        x.sheet(1, 16, 4);
        x.sheet(2, 16, 0);
        for (int i = 0; i < 6; i++) {
            x.write(0, i, i + 1);
        }
        for (int i = 0; i < 4; i++) {
            x.write(1, i, i + 7);
        }
    }

    /** 37: "BEYOND: one has not so many, or from, to or n is below 0."; also where a sum would wrap around. */
    private static void copyHowMany() {
        int[] sizes = {6, 4, 0};
        int[] ends = {Edge.LEAST, -1, 0, 1, 2, 3, 4, 5, 6, 7, 40, Edge.MOST - 1, Edge.MOST};
        for (int s = 0; s < 3; s++) {
            for (int t = 0; t < 3; t++) {
                for (int from : ends) {
                    for (int to : ends) {
                        for (int n : ends) {
                            copyHowMany(new int[] {s, from, t, to, n}, sizes);
                        }
                    }
                }
            }
        }
        int[][] deep = {{0, -1, 1, 0, 1}, {0, 0, 1, -1, 1}, {0, 0, 1, 0, -1}, {0, 3, 1, 0, 4}, {0, 0, 1, 1, 4},
            {0, 0, 1, 0, 5}, {1, 0, 0, 0, 5}, {0, 7, 1, 0, 0}, {0, 0, 1, 5, 0}, {0, Edge.MOST, 1, 0, 1},
            {0, 0, 1, Edge.MOST, 1}, {0, 1, 1, 1, Edge.MOST}, {0, Edge.MOST, 1, Edge.MOST, Edge.MOST},
            {2, 0, 2, 0, 1}, {2, 1, 2, 0, 0}, {0, Edge.LEAST, 1, 0, 1}, {0, 0, 1, 0, Edge.LEAST}};
        for (int[] c : deep) {
            Edge.refuses("37: copy(" + c[0] + ", " + c[1] + ", " + c[2] + ", " + c[3] + ", " + c[4] + ")",
                EdgesSheetsTest::rows, x -> x.copy(c[0], c[1], c[2], c[3], c[4]), Due.BEYOND);
        }
    }

    private static void copyHowMany(int[] c, int[] sizes) {
        boolean isFine = c[1] >= 0 && c[3] >= 0 && c[4] >= 0
            && (long) c[1] + c[4] <= sizes[c[0]] && (long) c[3] + c[4] <= sizes[c[2]];
        ToastCourt x = Edge.made(EdgesSheetsTest::rows);
        Due.due("37: copy(" + c[0] + ", " + c[1] + ", " + c[2] + ", " + c[3] + ", " + c[4] + ")",
            x.copy(c[0], c[1], c[2], c[3], c[4]), isFine ? c[4] : Due.BEYOND);
        Due.due("37: and status(-1)", x.status(-1), isFine ? 0 : 1);
    }

    /** 37: "come to another one from one on (as they all were)": over itself up and down, all, none. */
    private static void copyAsTheyWere() {
        copies(new int[] {0, 0, 0, 1, 5}, "1 1 2 3 4 5", "7 8 9 10");
        copies(new int[] {0, 1, 0, 0, 5}, "2 3 4 5 6 6", "7 8 9 10");
        copies(new int[] {0, 0, 0, 3, 3}, "1 2 3 1 2 3", "7 8 9 10");
        copies(new int[] {0, 0, 0, 0, 6}, "1 2 3 4 5 6", "7 8 9 10");
        copies(new int[] {0, 0, 1, 0, 4}, "1 2 3 4 5 6", "1 2 3 4");
        copies(new int[] {0, 2, 1, 0, 4}, "1 2 3 4 5 6", "3 4 5 6");
        copies(new int[] {0, 5, 1, 3, 1}, "1 2 3 4 5 6", "7 8 9 6");
        copies(new int[] {1, 0, 0, 2, 4}, "1 2 7 8 9 10", "7 8 9 10");
        copies(new int[] {0, 6, 1, 4, 0}, "1 2 3 4 5 6", "7 8 9 10");
        copies(new int[] {0, 0, 2, 0, 0}, "1 2 3 4 5 6", "7 8 9 10");
    }

    private static void copies(int[] c, String first, String second) {
        for (int s = 0; s < 2; s++) {
            ToastCourt x = Edge.made(EdgesSheetsTest::rows);
            String call = "37: copy(" + c[0] + ", " + c[1] + ", " + c[2] + ", " + c[3] + ", " + c[4] + ")";
            Due.due(call, x.copy(c[0], c[1], c[2], c[3], c[4]), c[4]);
            String got = Edge.numbers(x, s);
            Due.due(call + ", sheet " + s + " is " + got, got.equals(s == 0 ? first : second) ? 1 : 0, 1);
        }
    }

    /** 38: "BEYOND: no such sheet. MISSING." */
    private static void loadWhich() {
        Edge.range("38: load(s)", x -> {
            Made.lawyers(x);
            x.sheet(0, 8, 1);
            x.sheet(3, 32, 2);
        }, (x, s) -> x.load(s), Edge.ends(0, 3), Edge.wants(1, 2));
        Edge.refuses("38: load(3)", Made::full, x -> x.load(3), Due.MISSING);
        for (int s = 0; s < 4; s++) {
            int which = s;
            Edge.refuses("38: load(" + s + ") at first", Made::nothing, x -> x.load(which), Due.MISSING);
        }
    }

    /** 38: "It ends at the first that isn't 0 to 99, or for which there is no such one." */
    private static void loadEnds() {
        for (int ones = 0; ones <= 8; ones++) {
            for (int n : new int[] {0, 1, 7, 8, 9, 40}) {
                int there = ones;
                Edge.answers("38: load of " + n + " for " + ones, x -> {
                    for (int d = 0; d < there; d++) {
                        x.disputant(0, 50);
                    }
                    x.sheet(0, 8, n);
                }, x -> x.load(0), Math.min(ones, n));
            }
        }
        int[][] rows = {{-1, 0}, {0, 1}, {1, 1}, {98, 1}, {99, 1}, {100, 0}, {127, 0}, {Edge.MOST, 0}, {Edge.LEAST, 0}};
        for (int place = 0; place < 8; place++) {
            for (int[] r : rows) {
                loadEndsAt(place, r[0], r[1] == 1);
            }
        }
        Edge.leaves("38: load of an empty sheet", x -> {
            Made.full(x);
            x.sheet(0, 8, 0);
        }, x -> x.load(0));
    }

    private static void loadEndsAt(int place, int v, boolean comes) {
        ToastCourt x = new ToastCourt();
        x.sheet(1, 32, 9);
        for (int d = 0; d < 8; d++) {
            x.disputant(0, 50);
            x.write(1, d, d == place ? v : 10 + d);
        }
        String when = " with " + v + " in " + place;
        Due.due("38: load(1)" + when, x.load(1), comes ? 8 : place);
        for (int d = 0; d < 8; d++) {
            int came = d == place ? v : 10 + d;
            Due.due("38: CAUSE of " + d + when, x.of(d, 1), comes || d < place ? came : 50);
        }
        Due.due("38: no finding" + when, x.status(-1), 0);
    }

    /** 39: "BEYOND: no such sheet. MISSING." */
    private static void judgeWhich() {
        Edge.range("39: judge(s)", x -> {
            Made.lawyers(x);
            x.sheet(0, 8, 2);
            x.sheet(3, 32, 3);
        }, (x, s) -> x.judge(s), Edge.ends(0, 3), Edge.wants(0, 3));
        Edge.refuses("39: judge(3)", Made::full, x -> x.judge(3), Due.MISSING);
        for (int s = 0; s < 4; s++) {
            int which = s;
            Edge.refuses("39: judge(" + s + ") at first", Made::nothing, x -> x.judge(which), Due.MISSING);
        }
    }

    /** 39: "0 if so; else 1 and the place of the first that isn't so": empty, full, one too many. */
    private static void judgeFirst() {
        for (int n = 0; n <= 9; n++) {
            int numbers = n;
            Edge.Making making = x -> {
                Made.full(x);
                x.sheet(3, 16, numbers);
                for (int i = 0; i < numbers; i++) {
                    x.write(3, i, 30 + i);
                }
            };
            Edge.looks("39: judge of " + n + " that are so", making, x -> x.judge(3), n == 9 ? 9 : 0);
            for (int place = 0; place < n; place++) {
                int at = place;
                for (int v : new int[] {29 + place, 31 + place, -1, 0}) {
                    Edge.answers("39: judge of " + n + ", " + v + " in " + place, x -> {
                        making.make(x);
                        x.write(3, at, v);
                    }, x -> x.judge(3), place + 1);
                }
            }
        }
        Edge.looks("39: judge of 40 and nobody", x -> x.sheet(0, 8, 40), x -> x.judge(0), 1);
        Edge.looks("39: judge of 40 and two", x -> {
            Made.lawyers(x);
            x.sheet(0, 8, 40);
        }, x -> x.judge(0), 3);
        for (int wrong : new int[] {9998, 9999}) {
            Edge.looks("39: judge of 9999 of " + wrong, x -> {
                Made.lawyers(x);
                x.change(0, 3, wrong);
                x.sheet(0, 16, 1);
                x.write(0, 0, 9999);
            }, x -> x.judge(0), wrong == 9999 ? 0 : 1);
        }
    }
}
