/** Promises 18 to 23, sentence by sentence, at their edges. */
public final class EdgesHowTest {
    public static void main(String[] args) {
        heightOneAndHowMany();
        heightLeastAndNone();
        heightAsNow();
        spreadOneAndHowMany();
        spreadLeastAndMost();
        kindOneAndHowMany();
        kindLeastAndMost();
        causeOneHowOftenHowMany();
        causeLeastAndNone();
        againstOneAndHowMany();
        againstNoOther();
        againstWhom();
        silenceOneAndHowMany();
        silenceFewest();
        changeNothing();
        Due.end("EdgesHowTest");
    }

    private static void ofOne(String call, Edge.With act, long first, long last) {
        Edge.range(call + " of two", Made::lawyers, act, Edge.ends(0, 1), Edge.wants(first, last));
        Edge.refuses(call + " of nobody", Made::nothing, x -> act.on(x, 0), Due.BEYOND);
        for (int d : new int[] {-1, 8}) {
            Edge.refuses(call + " of " + d + ", full", Made::full, x -> act.on(x, d), Due.BEYOND);
        }
        Edge.answers(call + " of the 8th, no finding", Made::full, x -> act.on(x, 7) >= 0 ? 1 : 0, 1);
    }

    /** 18: "behind n (0 to 60) DROPS. BEYOND." */
    private static void heightOneAndHowMany() {
        ofOne("18: heightFor(disputant, 1)", (x, d) -> x.heightFor(d, 1), 1, 2);
        // 13 stand at each DROP; even TURNS below fall for 0 till it presses more, odd ones for 1 at once.
        Edge.range("18: heightFor(1, n)", Made::lawyers, (x, n) -> x.heightFor(1, n), Edge.ends(0, 60),
            Edge.wants(1, 13));
        Edge.told("18: heightFor(7, 60), full", Made::full, x -> x.heightFor(7, 60),
            HowTest.heightOf(Edge.made(Made::full), 7, 60));
    }

    /** 2 has all DROPS, and from each height one of these finds it wrong. */
    private static void doomed(ToastCourt x) {
        x.disputant(0, 0);
        x.disputant(4, 99);
        x.disputant(0, 99);
        for (int i = 0; i < 6; i += 2) {
            x.dispute(i, 0, 1);
            x.dispute(i + 1, 2, 0);
        }
        x.change(0, 2, 99);
        x.change(2, 2, 99);
    }

    /** 18: "The least HEIGHT": 1, 60; "NONE.", asked behind BEYOND. */
    private static void heightLeastAndNone() {
        Edge.looks("18: heightFor(0, 0), the lowest", Made::highest, x -> x.heightFor(0, 0), 1);
        Edge.looks("18: heightFor(0, 2), the highest", Made::highest, x -> x.heightFor(0, 2), 60);
        Due.due("18: NONE by the oracle", HowTest.heightOf(Edge.made(EdgesHowTest::doomed), 2, 60), Due.NONE);
        Edge.refuses("18: heightFor(2, 60)", EdgesHowTest::doomed, x -> x.heightFor(2, 60), Due.NONE);
        Edge.refuses("18: heightFor(2, 61)", EdgesHowTest::doomed, x -> x.heightFor(2, 61), Due.BEYOND);
        Edge.refuses("18: heightFor(3, 60)", EdgesHowTest::doomed, x -> x.heightFor(3, 60), Due.BEYOND);
    }

    /** 18: "WRONG of one is as now": 9999 stays 9999, found wrong or not. */
    private static void heightAsNow() {
        for (int wrong : new int[] {0, 9998, 9999}) {
            Edge.looks("18: heightFor(1, 1) of " + wrong, x -> {
                Made.lawyers(x);
                x.change(1, 3, wrong);
            }, x -> x.heightFor(1, 1), wrong == 9999 ? 1 : 2);
        }
    }

    /** 14 TURNS or fewer, all even: a lawyer presses as much as the bishop (99) with SPREAD 9 alone. */
    private static void bishop(ToastCourt x) {
        x.disputant(2, 90);
        x.disputant(4, 50);
        x.set(0, 14);
    }

    /** 19: "behind n (0 to 60) DROPS. BEYOND." */
    private static void spreadOneAndHowMany() {
        ofOne("19: spreadFor(disputant, 0)", (x, d) -> x.spreadFor(d, 0), 0, 0);
        Edge.range("19: spreadFor(0, n)", EdgesHowTest::bishop, (x, n) -> x.spreadFor(0, n), Edge.ends(0, 60),
            Edge.wants(0, HowTest.spreadOf(Edge.made(EdgesHowTest::bishop), 0, 60)));
        Edge.answers("19: spreadFor(7, 60), full", Made::full, x -> x.spreadFor(7, 60),
            HowTest.spreadOf(Edge.made(Made::full), 7, 60));
    }

    /** 19: "The SPREAD with which RIGHT of one is most": 0, 9, the least of several. */
    private static void spreadLeastAndMost() {
        Edge.looks("19: spreadFor(0, 1), the most", EdgesHowTest::bishop, x -> x.spreadFor(0, 1), 9);
        Edge.looks("19: spreadFor(1, 1), the least of several", EdgesHowTest::bishop, x -> x.spreadFor(1, 1), 0);
        Edge.looks("19: spreadFor(0, 1) of 9998", x -> {
            bishop(x);
            x.change(0, 4, 9998);
        }, x -> x.spreadFor(0, 1), 9);
        Edge.looks("19: spreadFor(0, 1) of 9999, which can't be more", x -> {
            bishop(x);
            x.change(0, 4, 9999);
        }, x -> x.spreadFor(0, 1), 0);
    }

    /**
     * From 8, against 102: a TWIN presses 97 (11 TURNS, right), an AUNT 102 (11, wrong); a DISPUTANT
     * (10), LAWYER, PARSON and BISHOP (8) press less and are wrong, a CHILD's 13 stand.
     */
    private static void twin(ToastCourt x) {
        x.disputant(2, 97);
        x.disputant(2, 99);
        x.set(0, 8);
    }

    /** 20: "BEYOND.": n is 0 to 60 as for SPREAD. */
    private static void kindOneAndHowMany() {
        ofOne("20: kindFor(disputant, 0)", (x, d) -> x.kindFor(d, 0), 0, 0);
        Edge.range("20: kindFor(0, n)", EdgesHowTest::twin, (x, n) -> x.kindFor(0, n), Edge.ends(0, 60),
            Edge.wants(0, HowTest.kindOf(Edge.made(EdgesHowTest::twin), 0, 60)));
        Edge.answers("20: kindFor(7, 60), full", Made::full, x -> x.kindFor(7, 60),
            HowTest.kindOf(Edge.made(Made::full), 7, 60));
    }

    /** 20: "The KIND of which it must be for that": 0, 6, the least of several. */
    private static void kindLeastAndMost() {
        Edge.looks("20: kindFor(0, 1), the last", EdgesHowTest::twin, x -> x.kindFor(0, 1), 6);
        Edge.looks("20: kindFor(0, 0), of equals the first", EdgesHowTest::twin, x -> x.kindFor(0, 0), 0);
        Edge.looks("20: kindFor(0, 1) of 9998", x -> {
            twin(x);
            x.change(0, 4, 9998);
        }, x -> x.kindFor(0, 1), 6);
        Edge.looks("20: kindFor(0, 1) of 9999, which can't be more", x -> {
            twin(x);
            x.change(0, 4, 9999);
        }, x -> x.kindFor(0, 1), 0);
    }

    /** 21: "v (0 to 9999) or more behind n (0 to 40) DROPS. BEYOND." */
    private static void causeOneHowOftenHowMany() {
        ofOne("21: causeFor(disputant, 0, 0)", (x, d) -> x.causeFor(d, 0, 0), 0, 0);
        Edge.Making nearly = x -> {
            Made.lawyers(x);
            x.change(1, 4, 9998);
        };
        Edge.range("21: causeFor(1, v, 1)", nearly, (x, v) -> x.causeFor(1, v, 1), Edge.ends(0, 9999), Edge.wants(0,
            11));
        Edge.range("21: causeFor(1, 9998, n)", nearly, (x, n) -> x.causeFor(1, 9998, n), Edge.ends(0, 40),
            Edge.wants(0, 0));
        int v = Edge.made(Made::lawyers).ahead(1, 4, 40);
        Edge.answers("21: causeFor(1, v, 40) as it will be", Made::lawyers, x -> x.causeFor(1, v, 40),
            HowTest.causeOf(Edge.made(Made::lawyers), 1, v, 40));
        for (int[] b : new int[][] {{2, 9999, 1}, {-1, 9999, 1}, {1, 10000, 1}, {1, 9999, 41}, {1, 9999, -1}}) {
            Edge.refuses("21: causeFor(" + b[0] + ", " + b[1] + ", " + b[2] + "), BEYOND ahead of NONE", Made::lawyers,
                x -> x.causeFor(b[0], b[1], b[2]), Due.BEYOND);
        }
        Edge.refuses("21: causeFor(1, 9999, 1)", Made::lawyers, x -> x.causeFor(1, 9999, 1), Due.NONE);
        Edge.refuses("21: causeFor(1, 41, 40)", Made::lawyers, x -> x.causeFor(1, 41, 40), Due.NONE);
    }

    /** 21: "The least CAUSE": 0, 99; "NONE." */
    private static void causeLeastAndNone() {
        // 12 TURNS: 1, who is B, must press 11; it learns 3 each time that it is found wrong.
        int[] least = {11, 8, 5, 2, 0, 0};
        for (int n = 1; n <= 6; n++) {
            int drops = n;
            Edge.looks("21: causeFor(1, 1, " + n + ")", Made::lawyers, x -> x.causeFor(1, 1, drops), least[n - 1]);
        }
        Edge.refuses("21: causeFor(1, 1, 0)", Made::lawyers, x -> x.causeFor(1, 1, 0), Due.NONE);
        Edge.Making against99 = x -> {
            x.disputant(2, 10);
            x.disputant(2, 99);
        };
        Edge.looks("21: causeFor(0, 1, 1), the most", against99, x -> x.causeFor(0, 1, 1), 99);
        Edge.refuses("21: causeFor(0, 1, 1) where 99 are too few", x -> {
            against99.make(x);
            x.dispute(0, 1, 0);
        }, x -> x.causeFor(0, 1, 1), Due.NONE);
        Edge.looks("21: causeFor(0, 9999, 0) of 9999", x -> {
            Made.lawyers(x);
            x.change(0, 4, 9999);
        }, x -> x.causeFor(0, 9999, 0), 0);
    }

    /** 22: "behind n (0 to 60) DROPS. BEYOND." */
    private static void againstOneAndHowMany() {
        ofOne("22: against(disputant, 1)", (x, d) -> x.against(d, 1), 1, 0);
        Edge.range("22: against(0, n)", x -> rivals(x, 7), (x, n) -> x.against(0, n), Edge.ends(0, 60),
            Edge.wants(1, HowTest.rivalOf(Edge.made(x -> rivals(x, 7)), 0, 60)));
        Edge.answers("22: against(7, 60), full", Made::full, x -> x.against(7, 60),
            HowTest.rivalOf(Edge.made(Made::full), 7, 60));
    }

    /** 22: "NONE: there is no other one.", asked behind BEYOND. */
    private static void againstNoOther() {
        Edge.Making alone = x -> x.disputant(2, 50);
        for (int n : new int[] {0, 1, 60}) {
            Edge.refuses("22: against(0, " + n + ") of one alone", alone, x -> x.against(0, n), Due.NONE);
        }
        for (int[] b : new int[][] {{0, -1}, {0, 61}, {1, 1}, {-1, 1}}) {
            Edge.refuses("22: against(" + b[0] + ", " + b[1] + ") of one alone", alone, x -> x.against(b[0], b[1]),
                Due.BEYOND);
        }
        Edge.refuses("22: against(0, 0) of nobody", Made::nothing, x -> x.against(0, 0), Due.BEYOND);
    }

    /** 12 TURNS fall for who presses less: for each but one it is 0. */
    private static void rivals(ToastCourt x, int less) {
        for (int d = 0; d < 8; d++) {
            x.disputant(2, d == 0 ? 50 : d == less ? 40 : 60);
        }
        Made.nothingListed(x);
    }

    /** 22: "With whom .. (it is A; another one)": the first, the last, of equals it as A; silent ones fall out. */
    private static void againstWhom() {
        for (int less = 1; less < 8; less++) {
            int rival = less;
            Edge.looks("22: against(0, 1), " + rival, x -> rivals(x, rival), x -> x.against(0, 1), rival);
            Edge.looks("22: against(0, 1), " + rival + " is silent", x -> {
                rivals(x, rival);
                x.change(rival, 5, 1);
            }, x -> x.against(0, 1), 1);
        }
        Edge.looks("22: against(7, 1)", x -> rivals(x, 0), x -> x.against(7, 1), 0);
        Edge.looks("22: against(1, 0), the least other one", x -> rivals(x, 0), x -> x.against(1, 0), 0);
        Edge.looks("22: against(0, 1), of equals B is wrong", x -> {
            rivals(x, 0);
            x.change(5, 1, 50);
        }, x -> x.against(0, 1), 5);
        Edge.looks("22: against(0, 60), itself silent", x -> {
            rivals(x, 7);
            x.change(0, 5, 1);
        }, x -> x.against(0, 60), 1);
    }

    /** Six others find 0 wrong once a round. */
    private static void six(ToastCourt x) {
        x.disputant(2, 0);
        for (int d = 1; d < 8; d++) {
            x.disputant(2, 99);
        }
        for (int i = 0; i < 6; i++) {
            x.dispute(i, i + 1, 0);
        }
    }

    /** 23: "behind n (0 to 20) DROPS". "BEYOND." */
    private static void silenceOneAndHowMany() {
        ofOne("23: silence(disputant, 1)", (x, d) -> x.silence(d, 1), 2, 0);
        Edge.range("23: silence(0, n)", EdgesHowTest::six, (x, n) -> x.silence(0, n), Edge.ends(0, 20),
            Edge.wants(0, 126));
        Edge.answers("23: silence(7, 20), full", Made::full, x -> x.silence(7, 20),
            HowTest.silenceOf(Edge.made(Made::full), 7, 20));
    }

    /** 23: "The set of fewest others": none, one, six; never itself; those who are SILENT needn't be told. */
    private static void silenceFewest() {
        int[] sets = {0, 2, 6, 14, 30, 62, 126, 126};
        for (int n = 0; n < 8; n++) {
            int drops = n;
            Edge.looks("23: silence(0, " + n + ")", EdgesHowTest::six, x -> x.silence(0, drops), sets[n]);
        }
        Edge.looks("23: silence(0, 20), 3 silent", x -> {
            six(x);
            x.change(3, 5, 1);
        }, x -> x.silence(0, 20), 126 - 8);
        Edge.looks("23: silence(0, 20), itself silent", x -> {
            six(x);
            x.change(0, 5, 1);
        }, x -> x.silence(0, 20), 0);
        for (int wrong : new int[] {9998, 9999}) {
            Edge.looks("23: silence(0, 20) of " + wrong, x -> {
                six(x);
                x.change(0, 3, wrong);
            }, x -> x.silence(0, 20), wrong == 9999 ? 0 : 126);
        }
        // 0 makes 2 learn, by which 1 presses less than 2 and is found wrong: 0 or 2 would do.
        Edge.looks("23: of several the least", x -> {
            x.disputant(2, 99);
            x.disputant(2, 40);
            x.disputant(2, 39);
            Made.nothingListed(x);
            x.dispute(0, 0, 2);
            x.dispute(1, 2, 1);
        }, x -> x.silence(1, 2), 1);
        // 2 is found wrong if 0 or 1 makes 3 learn: 3 alone is fewer than 0 and 1, whose set is less.
        Edge.looks("23: fewer ahead of less", x -> {
            x.disputant(2, 99);
            x.disputant(2, 99);
            x.disputant(2, 45);
            x.disputant(2, 43);
            x.dispute(0, 0, 3);
            x.dispute(1, 1, 3);
            x.dispute(2, 3, 2);
        }, x -> x.silence(2, 3), 8);
        Edge.looks("23: of one alone", x -> x.disputant(0, 0), x -> x.silence(0, 20), 0);
    }

    private static void changeNothing() {
        Edge.leaves("18: heightFor", Made::full, x -> x.heightFor(3, 60));
        Edge.leaves("19: spreadFor", Made::full, x -> x.spreadFor(3, 60));
        Edge.leaves("20: kindFor", Made::full, x -> x.kindFor(3, 60));
        Edge.leaves("21: causeFor", Made::full, x -> x.causeFor(3, 40, 40));
        Edge.leaves("22: against", Made::full, x -> x.against(3, 60));
        Edge.leaves("23: silence", Made::full, x -> x.silence(3, 20));
    }
}
