/** Promises 1 to 10, sentence by sentence, at their edges. */
public final class EdgesCourtTest {
    public static void main(String[] args) {
        allAsAtFirst();
        objectsShareNothing();
        setWithin();
        setWhat();
        courtWhat();
        disputePlace();
        disputeParties();
        disputeOfAnyTwo();
        listedPlace();
        disputantKindAndCause();
        disputantFull();
        ofOne();
        ofWhat();
        changeWithin();
        changeOneAndWhat();
        turningTwo();
        turningCut();
        fallsTwo();
        fallsOrStands();
        fallsSilentOrNot();
        Due.end("EdgesCourtTest");
    }

    /** 1: "All as at first; no DISPUTANTS; THE TAPE is empty, no image is kept." */
    private static void allAsAtFirst() {
        int[] court = {12, 3, 0};
        for (int what = 0; what < 3; what++) {
            int w = what;
            Edge.looks("1: court(" + w + ")", Made::nothing, x -> x.court(w), court[w]);
        }
        for (int i = 0; i < 6; i++) {
            int place = i;
            Edge.looks("1: listed(" + place + ")", Made::nothing, x -> x.listed(place), 1);
        }
        int[] now = {0, 0, 0, 0, 0, -1, 0, 1};
        int[] count = {0, 0, 0, 0, 0, 0, 1, 0};
        for (int what = 0; what < 8; what++) {
            int w = what;
            Edge.looks("1: now(" + w + ")", Made::nothing, x -> x.now(w), now[w]);
            Edge.looks("1: count(" + w + ")", Made::nothing, x -> x.count(w), count[w]);
        }
        for (int which = -1; which < 7; which++) {
            int w = which;
            Edge.looks("1: status(" + w + ")", Made::nothing, x -> x.status(w), 0);
        }
        Edge.refuses("1: nobody is 0", Made::nothing, x -> x.of(0, 0), Due.BEYOND);
        for (int spot = 0; spot < 10; spot++) {
            int s = spot;
            Edge.refuses("1: spot " + s + " holds nothing", Made::nothing, x -> x.as(s, 0), Due.MISSING);
        }
        for (int sheet = 0; sheet < 4; sheet++) {
            int s = sheet;
            Edge.refuses("1: sheet " + s + " is missing", Made::nothing, x -> x.judge(s), Due.MISSING);
        }
        Edge.looks("1: the tape is empty", Made::nothing, ToastCourt::wipe, 0);
        Edge.looks("1: an empty tape is no text", Made::nothing, ToastCourt::text, -1);
        Edge.refuses("1: no image is kept", Made::nothing, ToastCourt::undo, Due.NONE);
        Edge.looks("1: nothing to tear", Made::nothing, ToastCourt::tear, 0);
    }

    private static void objectsShareNothing() {
        Edge.same("1: a new one beside a full one", Made::nothing, x -> Made.full(new ToastCourt()));
        Edge.same("1: a full one beside a new one", Made::full, x -> {
            Made.full(x);
            Made.lawyers(new ToastCourt());
        });
        Edge.looks("1: findings of another one", x -> Edge.made(Made::full), x -> x.status(-1), 0);
    }

    /** 2: "HEIGHT (what 0), SPREAD (1) becomes v: what it was"; HEIGHT is 1 to 60, SPREAD 0 to 9. */
    private static void setWithin() {
        Edge.range("2: set(0, v)", Made::full, (x, v) -> x.set(0, v), Edge.ends(1, 60), Edge.wants(32, 32));
        Edge.range("2: set(1, v)", Made::full, (x, v) -> x.set(1, v), Edge.ends(0, 9), Edge.wants(7, 7));
        Edge.range("2: set(0, v) at first", Made::nothing, (x, v) -> x.set(0, v), Edge.ends(1, 60), Edge.wants(12, 12));
        Edge.range("2: set(1, v) at first", Made::nothing, (x, v) -> x.set(1, v), Edge.ends(0, 9), Edge.wants(3, 3));
        for (int what = 0; what < 2; what++) {
            for (int v : what == 0 ? new int[] {1, 2, 59, 60} : new int[] {0, 1, 8, 9}) {
                int w = what;
                String call = "2: set(" + w + ", " + v + ")";
                Edge.answers(call + ", then court(" + w + ")", Made::full, x -> Edge.then(x.set(w, v), x.court(w)), v);
                Edge.answers(call + " twice", Made::full, x -> Edge.then(x.set(w, v), x.set(w, v)), v);
                Edge.leaves(call + " and back", Made::full, x -> x.set(w, x.set(w, v)));
            }
        }
    }

    private static void setWhat() {
        Edge.range("2: set(what, 5)", Made::full, (x, what) -> x.set(what, 5), Edge.ends(0, 1), Edge.wants(32, 7));
        // What SPREAD can be HEIGHT can't, and the other way round.
        Edge.refuses("2: set(0, 0)", Made::full, x -> x.set(0, 0), Due.BEYOND);
        Edge.refuses("2: set(1, 60)", Made::full, x -> x.set(1, 60), Due.BEYOND);
        Edge.refuses("2: set(2, 0), EDGES", Made::full, x -> x.set(2, 0), Due.BEYOND);
    }

    /** 3: "what 0 HEIGHT, 1 SPREAD, 2 EDGES. BEYOND." */
    private static void courtWhat() {
        Edge.range("3: court(what)", x -> {
            Made.standing(x);
            x.go(7);
        }, (x, what) -> x.court(what), Edge.ends(0, 2), Edge.wants(13, 7));
        int[] want = {32, 7, 2};
        for (int what = 0; what < 3; what++) {
            int w = what;
            Edge.looks("3: court(" + w + ")", Made::full, x -> x.court(w), want[w]);
        }
    }

    /** 4: "in place i (0 to 5)": which it was. */
    private static void disputePlace() {
        Edge.range("4: dispute(i, 3, 4)", Made::full, (x, i) -> x.dispute(i, 3, 4), Edge.ends(0, 5), Edge.wants(2, 71));
        Edge.range("4: dispute(i, 3, 4) at first", Made::nothing, (x, i) -> x.dispute(i, 3, 4), Edge.ends(0, 5),
            Edge.wants(1, 1));
        for (int i = 0; i < 6; i++) {
            int place = i;
            for (int other = 0; other < 6; other++) {
                int o = other;
                Edge.answers("4: dispute(" + place + ", 3, 4), then listed(" + o + ")", Made::nothing,
                    x -> Edge.then(x.dispute(place, 3, 4), x.listed(o)), o == place ? 34 : 1);
            }
        }
    }

    /** 4: "A and B (0 to 7 each)": 10 * A and B. */
    private static void disputeParties() {
        Edge.range("4: dispute(2, a, 4)", Made::full, (x, a) -> x.dispute(2, a, 4), Edge.ends(0, 7), Edge.wants(24,
            24));
        Edge.range("4: dispute(2, 3, b)", Made::full, (x, b) -> x.dispute(2, 3, b), Edge.ends(0, 7), Edge.wants(24,
            24));
        int[][] rows = {{0, 0, 0}, {0, 7, 7}, {7, 0, 70}, {7, 7, 77}, {1, 0, 10}};
        for (int[] r : rows) {
            String call = "4: dispute(2, " + r[0] + ", " + r[1] + ")";
            Edge.answers(call + ", then listed(2)", Made::full, x -> Edge.then(x.dispute(2, r[0], r[1]), x.listed(2)),
                r[2]);
            Edge.answers(call + " twice", Made::full,
                x -> Edge.then(x.dispute(2, r[0], r[1]), x.dispute(2, r[0], r[1])), r[2]);
            Edge.leaves(call + " and back", Made::full, x -> Edge.then(x.dispute(2, r[0], r[1]), x.dispute(2, 2, 4)));
        }
    }

    /** 4: one of whom there is none, a silent one and one and the same may be told: they fall out later. */
    private static void disputeOfAnyTwo() {
        Edge.answers("4: of two of whom there is none", Made::nothing, x -> x.dispute(0, 6, 7), 1);
        Edge.answers("4: of one and the same", Made::lawyers, x -> x.dispute(0, 1, 1), 1);
        Edge.answers("4: of a silent one", Made::full, x -> x.dispute(0, 6, 1), 2);
    }

    /** 5: "The DISPUTE in a place of THE LIST. BEYOND." */
    private static void listedPlace() {
        Edge.range("5: listed(i)", Made::full, (x, i) -> x.listed(i), Edge.ends(0, 5), Edge.wants(2, 71));
        int[] want = {2, 13, 24, 35, 46, 71};
        for (int i = 0; i < 6; i++) {
            int place = i;
            Edge.looks("5: listed(" + i + ")", Made::full, x -> x.listed(place), want[i]);
        }
    }

    /** 6: "A new one with a CAUSE: the number. BEYOND."; KINDS are 0 to 6, CAUSE is 0 to 99. */
    private static void disputantKindAndCause() {
        Edge.range("6: disputant(kind, 5)", Made::lawyers, (x, kind) -> x.disputant(kind, 5), Edge.ends(0, 6),
            Edge.wants(2, 2));
        Edge.range("6: disputant(5, cause)", Made::lawyers, (x, cause) -> x.disputant(5, cause), Edge.ends(0, 99),
            Edge.wants(2, 2));
        int[][] rows = {{0, 0}, {0, 99}, {6, 0}, {6, 99}, {3, 98}};
        for (int[] r : rows) {
            int[] want = {r[0], r[1], 20, 0, 0, 0};
            for (int what = 0; what < 6; what++) {
                int w = what;
                Edge.answers("6: disputant(" + r[0] + ", " + r[1] + "), then of(2, " + w + ")", Made::lawyers,
                    x -> Edge.then(x.disputant(r[0], r[1]), x.of(2, w)), want[w]);
            }
        }
    }

    /** 6: "FULL.", asked behind BEYOND; DISPUTANTS are "at most 8". */
    private static void disputantFull() {
        for (int ones = 0; ones < 8; ones++) {
            int n = ones;
            Edge.answers("6: one more than " + n, x -> children(x, n), x -> x.disputant(1, 1), n);
        }
        Edge.answers("6: eight of them", x -> children(x, 8), x -> x.count(1), 8);
        Edge.refuses("6: a 9th", x -> children(x, 8), x -> x.disputant(1, 1), Due.FULL);
        Edge.refuses("6: a 9th, full", Made::full, x -> x.disputant(6, 99), Due.FULL);
        int[][] beyond = {{-1, 0}, {7, 0}, {0, -1}, {0, 100}, {7, 100}, {-1, -1}};
        for (int[] b : beyond) {
            Edge.refuses("6: a 9th of " + b[0] + ", " + b[1], Made::full, x -> x.disputant(b[0], b[1]), Due.BEYOND);
        }
    }

    private static void children(ToastCourt x, int n) {
        for (int d = 0; d < n; d++) {
            x.disputant(5, d);
        }
    }

    /** 7: "Of one": of whom there is none BEYOND. */
    private static void ofOne() {
        Edge.range("7: of(disputant, 1)", Made::full, (x, d) -> x.of(d, 1), Edge.ends(0, 7), Edge.wants(2, 79));
        Edge.range("7: of(disputant, 1) of two", Made::lawyers, (x, d) -> x.of(d, 1), Edge.ends(0, 1),
            Edge.wants(10, 20));
        for (int d : new int[] {-1, 0, 7, 8}) {
            Edge.refuses("7: of(" + d + ", 0) of nobody", Made::nothing, x -> x.of(d, 0), Due.BEYOND);
        }
    }

    /** 7: "what 0 KIND, .. 10 COOLS. BEYOND." */
    private static void ofWhat() {
        Edge.range("7: of(5, what)", Made::full, (x, what) -> x.of(5, what), Edge.ends(0, 10), Edge.wants(5, 5));
        // Of 6, a silent TWIN with CAUSE 68 and TEMPER 49.
        int[] want = {6, 68, 49, 36, 31, 1, 68 + 12 - 5, 5, 12, 5, 2};
        for (int what = 0; what < 11; what++) {
            int w = what;
            Edge.looks("7: of(6, " + w + ")", Made::full, x -> x.of(6, w), want[w]);
        }
    }

    /** 8: each what from and to, and what it was. */
    private static void changeWithin() {
        int[] most = {6, 99, 99, 9999, 9999, 1};
        int[] was = {6, 68, 49, 36, 31, 1};
        for (int what = 0; what < 6; what++) {
            int w = what;
            String call = "8: change(6, " + w + ", v)";
            Edge.range(call, Made::full, (x, v) -> x.change(6, w, v), Edge.ends(0, most[w]), Edge.wants(was[w],
                was[w]));
            for (int v : new int[] {0, 1, most[w] - 1, most[w]}) {
                Edge.answers(call + " of " + v + ", then of()", Made::full,
                    x -> Edge.then(x.change(6, w, v), x.of(6, w)), v);
                Edge.leaves(call + " of " + v + " and back", Made::full, x -> x.change(6, w, x.change(6, w, v)));
            }
        }
    }

    private static void changeOneAndWhat() {
        Edge.range("8: change(disputant, 1, 0)", Made::full, (x, d) -> x.change(d, 1, 0), Edge.ends(0, 7),
            Edge.wants(2, 79));
        Edge.range("8: change(disputant, 1, 0) of two", Made::lawyers, (x, d) -> x.change(d, 1, 0), Edge.ends(0, 1),
            Edge.wants(10, 20));
        Edge.refuses("8: change(0, 0, 0) of nobody", Made::nothing, x -> x.change(0, 0, 0), Due.BEYOND);
        Edge.range("8: change(4, what, 0)", Made::full, (x, what) -> x.change(4, what, 0), Edge.ends(0, 5),
            Edge.wants(4, 0));
        // of() tells these, but they can't be changed.
        for (int what = 6; what <= 10; what++) {
            int w = what;
            Edge.refuses("8: change(4, " + w + ", 1)", Made::full, x -> x.change(4, w, 1), Due.BEYOND);
        }
    }

    /** 9: "BEYOND: also one and the same." */
    private static void turningTwo() {
        // 32 * 3 / 7 is cut to 13; 0 jolts 9 and 7 jolts 4.
        Edge.looks("9: turning(0, 7)", Made::full, x -> x.turning(0, 7), 13 + 9 + 4);
        Edge.range("9: turning(a, 1)", EdgesCourtTest::threeTempers, (x, a) -> x.turning(a, 1),
            Edge.ends(0, 2), Edge.wants(12 + 3 + 5, 12 + 7 + 5));
        Edge.range("9: turning(1, b)", EdgesCourtTest::threeTempers, (x, b) -> x.turning(1, b),
            Edge.ends(0, 2), Edge.wants(12 + 3 + 5, 12 + 7 + 5));
        for (int d = -1; d <= 3; d++) {
            int one = d;
            Edge.refuses("9: turning(" + d + ", " + d + ")", EdgesCourtTest::threeTempers, x -> x.turning(one, one),
                Due.BEYOND);
        }
        Edge.refuses("9: turning(0, 1) of one alone", x -> x.disputant(0, 1), x -> x.turning(0, 1), Due.BEYOND);
        Edge.refuses("9: turning(0, 0) of nobody", Made::nothing, x -> x.turning(0, 0), Due.BEYOND);
    }

    private static void threeTempers(ToastCourt x) {
        for (int d = 0; d < 3; d++) {
            x.disputant(0, 50);
            x.change(d, 2, 39 + 20 * d);
        }
    }

    /** "HEIGHT times (10 less SPREAD), a seventh (cut) of that": just below, at and above each seventh. */
    private static void turningCut() {
        int[][] rows = {{1, 9, 0}, {6, 9, 0}, {7, 9, 1}, {8, 9, 1}, {13, 9, 1}, {14, 9, 2}, {60, 9, 8}, {1, 0, 1},
            {60, 0, 85}, {59, 0, 84}, {3, 8, 0}, {4, 8, 1}, {1, 4, 0}, {1, 3, 1}, {1, 2, 1}, {60, 3, 60}};
        for (int[] r : rows) {
            Edge.looks("9: turning(0, 1) from " + r[0] + " with " + r[1], x -> {
                Made.lawyers(x);
                x.set(0, r[0]);
                x.set(1, r[1]);
            }, x -> x.turning(0, 1), r[2]);
        }
        Edge.looks("9: the most TURNS", x -> {
            for (int d = 0; d < 2; d++) {
                x.disputant(5, 0);
                x.change(d, 2, 99);
            }
            x.set(0, 60);
            x.set(1, 0);
        }, x -> x.turning(0, 1), 85 + 12 + 12);
    }

    /** 10: "BEYOND: also one and the same.", asked ahead of NONE. */
    private static void fallsTwo() {
        Edge.Making three = x -> {
            Made.lawyers(x);
            x.disputant(2, 30);
        };
        Edge.range("10: falls(a, 1)", three, (x, a) -> x.falls(a, 1), Edge.ends(0, 2),
            Edge.wants(0, 1));
        Edge.range("10: falls(1, b)", three, (x, b) -> x.falls(1, b), Edge.ends(0, 2),
            Edge.wants(0, 1));
        Edge.refuses("10: falls(1, 1)", three, x -> x.falls(1, 1), Due.BEYOND);
        for (int[] b : new int[][] {{0, 0}, {1, 1}, {0, 2}, {2, 1}, {-1, 0}, {0, -1}, {2, 2}}) {
            Edge.refuses("10: falls(" + b[0] + ", " + b[1] + "), where it would stand", Made::standing,
                x -> x.falls(b[0], b[1]), Due.BEYOND);
        }
        Edge.refuses("10: falls(0, 1), where it would stand", Made::standing, x -> x.falls(0, 1), Due.NONE);
        Edge.refuses("10: falls(0, 0) of nobody", Made::nothing, x -> x.falls(0, 0), Due.BEYOND);
    }

    /** 10: "NONE: it would stand."; and 2: "if TURNS leave 0 by 13", even or odd, of equals. */
    private static void fallsOrStands() {
        for (int h = 1; h <= 60; h++) {
            int from = h;
            Edge.Making less = x -> {
                Made.lawyers(x);
                x.set(0, from);
            };
            Edge.Making equal = x -> {
                less.make(x);
                x.change(0, 1, 20);
            };
            String at = " with " + h + " TURNS";
            if (h == 13 || h == 26 || h == 39 || h == 52) {
                Edge.refuses("10: falls(0, 1)" + at, less, x -> x.falls(0, 1), Due.NONE);
                Edge.refuses("10: falls(0, 1) of equals" + at, equal, x -> x.falls(0, 1), Due.NONE);
            } else {
                boolean isEven = (h & 1) == 0;
                Edge.looks("10: falls(0, 1)" + at, less, x -> x.falls(0, 1), isEven ? 0 : 1);
                Edge.looks("10: falls(1, 0)" + at, less, x -> x.falls(1, 0), isEven ? 0 : 1);
                Edge.looks("10: falls(0, 1) of equals" + at, equal, x -> x.falls(0, 1), isEven ? 1 : 0);
                Edge.looks("10: falls(1, 0) of equals" + at, equal, x -> x.falls(1, 0), isEven ? 0 : 1);
            }
        }
        Edge.refuses("10: falls(0, 1) with no TURNS", x -> {
            Made.lawyers(x);
            x.set(0, 6);
            x.set(1, 9);
        }, x -> x.falls(0, 1), Due.NONE);
    }

    /** 10: "(SILENT or not)", and whether THE LIST has them or not. */
    private static void fallsSilentOrNot() {
        for (int silent = 0; silent < 4; silent++) {
            int set = silent;
            Edge.Making making = x -> {
                Made.lawyers(x);
                Made.nothingListed(x);
                x.change(0, 5, set & 1);
                x.change(1, 5, set >> 1);
            };
            Edge.looks("10: falls(0, 1), silent " + set, making, x -> x.falls(0, 1), 0);
            Edge.looks("9: turning(0, 1), silent " + set, making, x -> x.turning(0, 1), 12);
        }
    }
}
