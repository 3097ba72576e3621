/** "Terms" of the document (but texts, which EdgesTextTest has), sentence by sentence, at their edges. */
public final class EdgesTermsTest {
    public static void main(String[] args) {
        findings();
        heightByDraws();
        edges();
        listByDrop();
        fallingOut();
        atMostEight();
        kinds();
        presses();
        jolts();
        byKind();
        foundWrong();
        foundRight();
        cooling();
        order();
        lastDrop();
        draws();
        calls();
        Due.end("EdgesTermsTest");
    }

    /** "FINDINGS are answers below -1000000: LOW is -1000001; LOW BEYOND, .. LOW - 6 SIZE (in longs, too)." */
    private static void findings() {
        Edge.refuses("BEYOND", Made::full, x -> x.court(3), -1000001);
        Edge.refuses("FULL", Made::full, x -> x.disputant(0, 0), -1000002);
        Edge.refuses("KIND", Made::full, x -> x.as(4, 1), -1000003);
        Edge.refuses("NONE", Made::full, x -> x.falls(7, 1), -1000004);
        Edge.refuses("STATE", x -> Made.late(x, 0), x -> x.go(1), -1000005);
        Edge.refuses("MISSING", Made::full, x -> x.load(3), -1000006);
        Edge.refuses("SIZE", Made::full, x -> x.sheet(3, 8, -1), -1000007);
        Edge.refuses("BEYOND in a long", Made::full, x -> x.odds(0, 0, 1, 0), -1000001);
    }

    /** "HEIGHT (1 to 60)": a draw's rest by 60 and 1 come to both ends and no further. */
    private static void heightByDraws() {
        for (int want : new int[] {1, 60}) {
            int z = 0;
            while (1 + (drawn(drawn(drawn(z))) >>> 8) % 60 != want) {
                z++;
            }
            int seed = z;
            Edge.answers("HEIGHT " + want + " by a draw", x -> x.seed(seed), x -> {
                x.toss(1);
                return x.court(0);
            }, want);
        }
    }

    private static int drawn(int z) {
        return (int) ((z * 1103515245L + 12345L) & 0xffffffffL);
    }

    /** "EDGES (.. 0 to 9999)": "EDGES is 1 more, 9999 at most". */
    private static void edges() {
        Edge.Making nearly = x -> {
            Made.standing(x);
            for (int k = 0; k < 166; k++) {
                x.go(60);
            }
            x.go(38);
        };
        Edge.answers("EDGES are 9998", nearly, x -> x.court(2), 9998);
        Edge.answers("EDGES can be more than 9998", nearly, ToastCourt::stands, 1);
        int[] want = {9999, 9999, 9999};
        for (int n = 1; n <= 3; n++) {
            int drops = n;
            Edge.answers("EDGES " + n + " behind 9998", nearly, x -> {
                x.go(drops);
                return x.now(2);
            }, want[n - 1]);
        }
        Edge.refuses("EDGES can't be more than 9999", x -> {
            nearly.make(x);
            x.go(1);
        }, ToastCourt::stands, Due.NONE);
    }

    /** "THE LIST: six DISPUTES, one for DROP modulo 6": around 5 and 6, 11 and 12. */
    private static void listByDrop() {
        for (int place = 0; place < 6; place++) {
            int only = place;
            for (int drop = 0; drop < 20; drop++) {
                int at = drop;
                Edge.Making making = x -> {
                    Made.nothingListed(x);
                    if (at > 0) {
                        x.go(at);
                    }
                    Made.lawyers(x);
                    x.dispute(only, 0, 1);
                };
                boolean isIts = drop - place == 0 || drop - place == 6 || drop - place == 12 || drop - place == 18;
                String when = "place " + place + " at DROP " + drop;
                Edge.answers(when + ", now(7)", making, x -> x.now(7), isIts ? 0 : 1);
                Edge.answers(when + ", go(1)", making, x -> x.go(1), isIts ? 1 : 0);
            }
        }
    }

    /** "one is of whom there is none, or SILENT, or both are the same, falls out (nothing is dropped)". */
    private static void fallingOut() {
        // How many there are, who is silent (a set), A, B, whether it falls out.
        int[][] rows = {{0, 0, 0, 1, 1}, {0, 0, 0, 0, 1}, {0, 0, 7, 6, 1}, {1, 0, 0, 1, 1}, {1, 0, 1, 0, 1},
            {1, 0, 0, 0, 1}, {2, 0, 0, 1, 0}, {2, 0, 1, 0, 0}, {2, 0, 1, 2, 1}, {2, 0, 2, 1, 1}, {2, 0, 0, 0, 1},
            {2, 0, 1, 1, 1}, {2, 0, 2, 2, 1}, {2, 0, 2, 3, 1}, {7, 0, 6, 7, 1}, {7, 0, 7, 6, 1}, {8, 0, 6, 7, 0},
            {8, 0, 7, 6, 0}, {8, 0, 7, 7, 1}, {8, 0, 0, 7, 0}, {2, 1, 0, 1, 1}, {2, 2, 0, 1, 1}, {2, 3, 0, 1, 1},
            {2, 1, 1, 0, 1}, {2, 2, 1, 0, 1}, {3, 4, 0, 1, 0}, {8, 255 - 128 - 1, 0, 7, 0}, {8, 128, 0, 7, 1}};
        for (int[] r : rows) {
            for (int height = 12; height <= 13; height++) {
                fallsOutOrNot(r, height);
            }
        }
    }

    /** From 12 lawyers' slices fall, from 13 they stand. */
    private static void fallsOutOrNot(int[] r, int height) {
        Edge.Making making = x -> {
            for (int d = 0; d < r[0]; d++) {
                x.disputant(2, 10 * d);
                x.change(d, 5, r[1] >> d & 1);
            }
            x.set(0, height);
            x.dispute(0, r[2], r[3]);
        };
        String when = "of " + r[0] + ", silent " + r[1] + ", " + r[2] + " and " + r[3] + " from " + height;
        boolean isOut = r[4] == 1;
        Edge.answers("now(7) " + when, making, x -> x.now(7), r[4]);
        Edge.answers("WRONG " + when, making, x -> x.go(1), isOut || height == 13 ? 0 : 1);
        ToastCourt x = Edge.made(making);
        x.go(1);
        Due.due("EDGES " + when, x.court(2), isOut || height == 12 ? 0 : 1);
        Due.due("DROP " + when, x.now(0), 1);
        int right = 0;
        int grown = 0;
        for (int d = 0; d < r[0]; d++) {
            right += x.of(d, 4);
            grown += x.of(d, 2) - 18;
        }
        Due.due("RIGHT " + when, right, isOut || height == 13 ? 0 : 1);
        Due.due("TEMPER grown " + when, grown, isOut || height == 13 ? 0 : 3);
    }

    /** "DISPUTANTS 0, 1, .. (at most 8)". */
    private static void atMostEight() {
        Edge.Making seven = x -> {
            for (int d = 0; d < 7; d++) {
                x.disputant(0, 0);
            }
        };
        Edge.refuses("7 is none yet", seven, x -> x.of(7, 0), Due.BEYOND);
        Edge.answers("7 is the 8th", seven, x -> x.disputant(3, 0), 7);
        Edge.answers("the 8th has a kind", Made::full, x -> x.of(7, 1), 79);
        Edge.refuses("8 can't be", Made::full, x -> x.of(8, 0), Due.BEYOND);
        Edge.refuses("a 9th can't be", Made::full, x -> x.disputant(3, 0), Due.FULL);
    }

    /** KINDS are 0 to 6: "under" whom each stands. */
    private static void kinds() {
        int[] under = {-1, 0, 0, 2, 3, 0, 1};
        for (int kind = 0; kind < 7; kind++) {
            for (int asked = 0; asked < 7; asked++) {
                int of = kind;
                int as = asked;
                int up = kind;
                while (up != -1 && up != asked) {
                    up = under[up];
                }
                Edge.Making making = x -> {
                    x.disputant(0, 0);
                    x.disputant(of, 0);
                    x.hold(5, 1);
                };
                String call = "one of " + kind + " as one of " + asked;
                if (up == asked) {
                    Edge.looks(call, making, x -> x.as(5, as), 1);
                } else {
                    Edge.refuses(call, making, x -> x.as(5, as), Due.KIND);
                }
            }
        }
    }

    /** A kind, CAUSE, TEMPER, SPREAD, DROP. */
    private static Edge.Making one(int[] r) {
        return x -> {
            if (r[4] > 0) {
                x.go(r[4]);
            }
            x.disputant(r[0], r[1]);
            x.change(0, 2, r[2]);
            x.set(1, r[3]);
        };
    }

    /** PRESSES: where a fourth, a half are cut, where 5 less is 0 at least, at SPREAD 5, at 99 at most. */
    private static void presses() {
        int[][] rows = {
            {0, 0, 99, 9, 1, 0}, {0, 99, 99, 9, 1, 99}, {0, 50, 0, 0, 0, 50},
            {1, 0, 0, 9, 0, 0}, {1, 0, 3, 9, 0, 0}, {1, 0, 4, 9, 0, 1}, {1, 0, 7, 9, 0, 1}, {1, 0, 8, 9, 0, 2},
            {1, 99, 95, 9, 0, 122}, {1, 99, 96, 9, 0, 123}, {1, 99, 99, 9, 0, 123},
            {6, 0, 0, 9, 0, 0}, {6, 4, 3, 9, 0, 0}, {6, 5, 3, 9, 0, 0}, {6, 6, 3, 9, 0, 1}, {6, 0, 19, 9, 0, 0},
            {6, 0, 20, 9, 0, 0}, {6, 0, 23, 9, 0, 0}, {6, 0, 24, 9, 0, 1}, {6, 99, 99, 9, 0, 118},
            {2, 0, 99, 0, 0, 0}, {2, 0, 99, 9, 0, 9}, {2, 99, 0, 9, 0, 108}, {2, 50, 0, 4, 0, 54}, {2, 50, 0, 5, 0, 55},
            {3, 50, 0, 0, 0, 50}, {3, 50, 0, 4, 0, 54}, {3, 50, 0, 5, 0, 60}, {3, 50, 0, 6, 0, 62}, {3, 99, 0, 9, 0,
            117},
            {4, 0, 0, 0, 0, 0}, {4, 1, 0, 0, 0, 2}, {4, 49, 0, 0, 0, 98}, {4, 50, 0, 0, 0, 99}, {4, 45, 0, 4, 0, 98},
            {4, 46, 0, 4, 0, 99}, {4, 39, 0, 5, 0, 98}, {4, 40, 0, 5, 0, 99}, {4, 99, 0, 9, 0, 99}, {4, 0, 0, 4, 0, 8},
            {4, 0, 0, 5, 0, 20},
            {5, 0, 99, 9, 0, 0}, {5, 1, 99, 9, 0, 0}, {5, 2, 99, 9, 0, 1}, {5, 98, 99, 9, 0, 49}, {5, 99, 99, 9, 0, 49},
        };
        for (int[] r : rows) {
            String of = " of kind " + r[0] + ", CAUSE " + r[1] + ", TEMPER " + r[2] + ", SPREAD " + r[3];
            Edge.looks("PRESSES" + of, one(r), x -> x.of(0, 6), r[5]);
            Edge.looks("PRESSES ahead" + of, one(r), x -> x.ahead(0, 6, 0), r[5]);
        }
    }

    /** JOLTS: where a tenth is cut, and whether DROP is odd. */
    private static void jolts() {
        int[] tempers = {0, 9, 10, 19, 20, 89, 90, 99};
        int[] tenths = {0, 0, 1, 1, 2, 8, 9, 9};
        int[] more = {0, 1, -1, -1, -1, 3, 1};
        for (int drop = 0; drop < 4; drop++) {
            for (int kind = 0; kind < 7; kind++) {
                for (int t = 0; t < tempers.length; t++) {
                    boolean isLaw = kind >= 2 && kind <= 4;
                    int lawful = kind > 2 && (drop == 1 || drop == 3) ? 1 : 0;
                    Edge.looks("JOLTS of kind " + kind + ", TEMPER " + tempers[t] + ", DROP " + drop,
                        one(new int[] {kind, 50, tempers[t], 3, drop}), x -> x.of(0, 7),
                        isLaw ? lawful : tenths[t] + more[kind]);
                }
            }
        }
    }

    private static final int[] GROWS = {6, 12, 3, 0, 0, 8, 12};
    private static final int[] LEARNS = {3, 0, 3, 3, 3, 7, 5};
    private static final int[] COOLS = {1, 1, 2, 2, 2, 5, 2};

    /** GROWS, LEARNS, COOLS: by KIND alone. */
    private static void byKind() {
        for (int kind = 0; kind < 7; kind++) {
            for (int end = 0; end < 2; end++) {
                int[] r = {kind, 99 * end, 99 * end, 9 * end, end};
                Edge.looks("GROWS of kind " + kind, one(r), x -> x.of(0, 8), GROWS[kind]);
                Edge.looks("LEARNS of kind " + kind, one(r), x -> x.of(0, 9), LEARNS[kind]);
                Edge.looks("COOLS of kind " + kind, one(r), x -> x.of(0, 10), COOLS[kind]);
            }
        }
    }

    /** "WRONG is 1 more (9999 at most), TEMPER .. GROWS more, CAUSE .. LEARNS more (99 at most, both)". */
    private static void foundWrong() {
        for (int kind = 0; kind < 7; kind++) {
            for (int off = -1; off <= 1; off++) {
                int cause = Math.min(99 - LEARNS[kind] + off, 99);
                int temper = Math.min(99 - GROWS[kind] + off, 99);
                foundWrong(kind, cause, temper, off == -1 ? 9997 : off == 0 ? 9998 : 9999);
            }
            foundWrong(kind, 99, 99, 9999);
            foundWrong(kind, 0, 0, 0);
        }
    }

    private static void foundWrong(int kind, int cause, int temper, int wrong) {
        Edge.Making making = x -> {
            x.disputant(kind, cause);
            x.disputant(0, 48);
            x.change(0, 2, temper);
            x.change(0, 3, wrong);
            int from = 1;
            x.set(0, from);
            while (x.falls(0, 1) != 0) {
                from++;
                x.set(0, from);
            }
            x.go(1);
        };
        String when = " of kind " + kind + " with " + cause + ", " + temper + ", " + wrong;
        ToastCourt x = Edge.made(making);
        Due.due("WRONG" + when, x.of(0, 3), wrong == 9999 ? 9999 : wrong + 1);
        Due.due("CAUSE" + when, x.of(0, 1), Math.min(cause + LEARNS[kind], 99));
        Due.due("TEMPER" + when, x.of(0, 2), Math.max(Math.min(temper + GROWS[kind], 99) - COOLS[kind], 0));
        Due.due("RIGHT" + when, x.of(0, 4), 0);
        Due.due("WRONG of the other one" + when, x.of(1, 3), 0);
        Due.due("CAUSE of the other one" + when, x.of(1, 1), 48);
        Due.due("TEMPER of the other one" + when, x.of(1, 2), 19);
        Due.due("RIGHT of the other one" + when, x.of(1, 4), 1);
    }

    /** "RIGHT of the other one is 1 more (9999 at most)". */
    private static void foundRight() {
        int[][] rows = {{0, 1}, {9997, 9998}, {9998, 9999}, {9999, 9999}};
        for (int[] r : rows) {
            Edge.answers("RIGHT behind " + r[0], x -> {
                Made.lawyers(x);
                x.change(1, 4, r[0]);
                x.go(1);
            }, x -> x.of(1, 4), r[1]);
        }
    }

    /** "TEMPER of all is what each COOLS less (0 at least)": dropped or not, SILENT or not. */
    private static void cooling() {
        for (int kind = 0; kind < 7; kind++) {
            int cools = COOLS[kind];
            for (int temper : new int[] {0, cools - 1, cools, cools + 1, 99}) {
                for (int silent = 0; silent < 2; silent++) {
                    int of = kind;
                    int is = silent;
                    Edge.answers("TEMPER " + temper + " of kind " + kind + " cools, silent " + silent, x -> {
                        for (int d = 0; d < 8; d++) {
                            x.disputant(of, 50);
                            x.change(d, 2, temper);
                            x.change(d, 5, is);
                        }
                        Made.nothingListed(x);
                        x.go(1);
                    }, x -> x.now(4), 8 * Math.max(temper - cools, 0));
                }
            }
        }
    }

    /** The DROP's parts in their order: who is found WRONG grows to 99 at most, and only then cools. */
    private static void order() {
        ToastCourt x = Edge.made(Made::nothing);
        x.disputant(1, 99);
        x.disputant(2, 10);
        x.change(0, 2, 98);
        // 11 and 10 TURNS are odd: the aunt presses more.
        x.set(0, 11);
        x.go(1);
        Due.due("TEMPER grows to 99 and cools to 98", x.of(0, 2), 98);
        // DROP is one more at the end: a parson's jolt counts as DROP was.
        ToastCourt y = Edge.made(Made::nothing);
        y.disputant(3, 10);
        y.disputant(2, 20);
        y.set(0, 13);
        y.go(1);
        Due.due("DROP 0 is even: 13 TURNS stand", y.court(2), 1);
        y.set(0, 12);
        y.go(1);
        Due.due("DROP 1 is odd: 13 TURNS stand", y.court(2), 2);
    }

    /** "DROP is one more (99999 at most)": also where nothing changes but what will be is told. */
    private static void lastDrop() {
        Edge.Making before = x -> {
            Made.late(x, 1);
            Made.lawyers(x);
        };
        Edge.answers("DROP is 99998", before, x -> x.now(0), 99998);
        Edge.answers("DROP 99998, go(1)", before, x -> x.go(1), 1);
        Edge.answers("DROP is 99999", x -> {
            before.make(x);
            x.go(1);
        }, x -> x.count(0), 99999);
        // 99998 and 99999 leave 2 and 3 by 6; then DROP, and with it the place, stays.
        Edge.Making placed = x -> {
            before.make(x);
            Made.nothingListed(x);
            x.dispute(3, 0, 1);
        };
        Edge.looks("behind DROP 99998", placed, x -> x.ahead(0, 3, 1), 0);
        Edge.looks("behind DROP 99999", placed, x -> x.ahead(0, 3, 2), 1);
        Edge.looks("behind DROP 99999 once more", placed, x -> x.ahead(0, 3, 3), 2);
        Edge.looks("WRONG behind DROP 99999", placed, x -> x.wrong(0, 3), 4);
    }

    /** "each makes it z * 1103515245 + 12345 (an int), and gives z >>> 8": around the ends of an int. */
    private static void draws() {
        for (int z : new int[] {0, 1, -1, Edge.MOST, Edge.LEAST, 255, 256, -256, -257, 1 << 30, 123456789}) {
            int first = drawn(z);
            int second = drawn(first);
            int third = drawn(second);
            Edge.Making tossed = x -> {
                x.seed(z);
                x.toss(1);
            };
            Edge.answers("z behind " + z, tossed, x -> x.count(6), third);
            Edge.answers("A by " + z, tossed, x -> x.listed(0) / 10, (first & 0xffffffffL) / 256 % 8);
            Edge.answers("B by " + z, tossed, x -> x.listed(0) % 10, (second & 0xffffffffL) / 256 % 8);
            Edge.answers("HEIGHT by " + z, tossed, x -> x.court(0), 1 + (third & 0xffffffffL) / 256 % 60);
        }
    }

    /** "An object is used for at most 512 calls": the 512th answers as any. */
    private static void calls() {
        ToastCourt x = new ToastCourt();
        int was = 12;
        for (int call = 1; call <= 512; call++) {
            int v = 1 + call % 60;
            Due.due("call " + call, x.set(0, v), was);
            was = v;
        }
    }
}
