/** Promises 11 to 17, sentence by sentence, at their edges. */
public final class EdgesDropsTest {
    public static void main(String[] args) {
        goHowMany();
        goState();
        nowWhat();
        nowSets();
        nowSums();
        nowLoudest();
        aheadOne();
        aheadWhat();
        aheadHowMany();
        wrongOneAndHowOften();
        wrongWithin200();
        rightOneAndHowOften();
        rightWithin200();
        standsWithin200();
        calmOneAndHowMuch();
        calmWithin200();
        whatWillBe();
        Due.end("EdgesDropsTest");
    }

    /** 11: "n DROPS (1 to 60): WRONG of all together then. BEYOND." */
    private static void goHowMany() {
        Edge.range("11: go(n)", Made::angry, (x, n) -> x.go(n), Edge.ends(1, 60), Edge.wants(1, 60));
        Edge.range("11: go(n), full", Made::full, (x, n) -> x.go(n), Edge.ends(1, 60),
            Edge.wants(oracle(1).wrongs(), oracle(60).wrongs()));
        Edge.range("11: go(n) of nobody", Made::nothing, (x, n) -> x.go(n), Edge.ends(1, 60), Edge.wants(0, 0));
        for (int n : new int[] {1, 2, 59, 60}) {
            Edge.answers("11: go(" + n + "), then DROP", Made::full, x -> Edge.then(x.go(n), x.now(0)), 11 + n);
            Edge.same("11: go(" + n + ") and " + n + " times go(1)", x -> {
                Made.full(x);
                x.go(n);
            }, x -> {
                Made.full(x);
                for (int k = 0; k < n; k++) {
                    x.go(1);
                }
            });
        }
    }

    private static Oracle oracle(int n) {
        return Oracle.of(Edge.made(Made::full)).go(n);
    }

    /** 11: "STATE: DROP would be above 99999.", asked behind BEYOND. */
    private static void goState() {
        Edge.state("11: go", (x, n) -> x.go(n), 60);
    }

    /** 12: "What 0 DROP, .. 7 .. BEYOND." */
    private static void nowWhat() {
        Edge.range("12: now(what)", Made::full, (x, what) -> x.now(what), Edge.ends(0, 7), Edge.wants(11, 0));
        Edge.range("12: now(what) of nobody", Made::nothing, (x, what) -> x.now(what), Edge.ends(0, 7), Edge.wants(0,
            1));
        int[] want = {11, 268, 2, 240, 532, 4, 64, 0};
        for (int what = 0; what < 8; what++) {
            int w = what;
            Edge.looks("12: now(" + w + ")", Made::full, x -> x.now(w), want[w]);
        }
    }

    /** 12: "who was found WRONG more often than RIGHT", "who is SILENT": none of them, all of them. */
    private static void nowSets() {
        int[][] rows = {{0, 0, 0}, {1, 1, 0}, {1, 0, 1}, {0, 1, 0}, {5, 4, 1}, {4, 5, 0}, {9999, 9999, 0}, {9999, 9998,
            1}};
        for (int[] r : rows) {
            for (int d = 0; d < 8; d++) {
                int one = d;
                Edge.Making making = x -> {
                    eight(x);
                    x.change(one, 3, r[0]);
                    x.change(one, 4, r[1]);
                };
                Edge.looks("12: now(3) with " + r[0] + ", " + r[1] + " of " + d, making, x -> x.now(3), r[2] << d);
            }
        }
        Edge.looks("12: now(3) of all", x -> {
            eight(x);
            for (int d = 0; d < 8; d++) {
                x.change(d, 3, 1);
            }
        }, x -> x.now(3), 255);
        Edge.looks("12: now(6) of none", EdgesDropsTest::eight, x -> x.now(6), 0);
        for (int d = 0; d < 8; d++) {
            int one = d;
            Edge.looks("12: now(6) of " + d, x -> {
                eight(x);
                x.change(one, 5, 1);
            }, x -> x.now(6), 1 << d);
        }
        Edge.looks("12: now(6) of all", EdgesDropsTest::silent, x -> x.now(6), 255);
    }

    private static void eight(ToastCourt x) {
        for (int d = 0; d < 8; d++) {
            x.disputant(0, 50);
        }
    }

    private static void silent(ToastCourt x) {
        eight(x);
        for (int d = 0; d < 8; d++) {
            x.change(d, 5, 1);
        }
    }

    /** 12: "WRONG of all together", "TEMPERS together": the most that can be, SILENT or not. */
    private static void nowSums() {
        Edge.Making most = x -> {
            silent(x);
            for (int d = 0; d < 8; d++) {
                x.change(d, 2, 99);
                x.change(d, 3, 9999);
            }
        };
        Edge.looks("12: now(1), the most", most, x -> x.now(1), 79992);
        Edge.looks("12: now(4), the most", most, x -> x.now(4), 792);
        Edge.answers("11: go(1), the most", most, x -> x.go(1), 79992);
        Edge.answers("27: toss(1), the most", most, x -> x.toss(1), 79992);
        Edge.looks("12: now(1) of nobody", Made::nothing, x -> x.now(1), 0);
        Edge.looks("12: now(4) of nobody", Made::nothing, x -> x.now(4), 0);
    }

    /** 12: "5 who PRESSES most (-1: there is nobody)"; of several the least number. */
    private static void nowLoudest() {
        Edge.looks("12: now(5) of nobody", Made::nothing, x -> x.now(5), -1);
        Edge.looks("12: now(5) of one who presses 0", x -> x.disputant(0, 0), x -> x.now(5), 0);
        Edge.looks("12: now(5) of eight equals", EdgesDropsTest::eight, x -> x.now(5), 0);
        Edge.looks("12: now(5) of eight who are silent", EdgesDropsTest::silent, x -> x.now(5), 0);
        for (int d = 1; d < 8; d++) {
            int one = d;
            Edge.Making more = x -> {
                eight(x);
                x.change(one, 1, 51);
            };
            Edge.looks("12: now(5) with one more of " + d, more, x -> x.now(5), d);
            Edge.looks("12: now(5) with one more of " + d + " and as much of 7", x -> {
                more.make(x);
                x.change(7, 1, 51);
            }, x -> x.now(5), d);
        }
    }

    /** 13: "of one": of whom there is none BEYOND. */
    private static void aheadOne() {
        Edge.range("13: ahead(disputant, 1, 0)", Made::full, (x, d) -> x.ahead(d, 1, 0), Edge.ends(0, 7),
            Edge.wants(2, 79));
        Edge.range("13: ahead(disputant, 3, 1) of two", Made::angry, (x, d) -> x.ahead(d, 3, 1),
            Edge.ends(0, 1), Edge.wants(1, 0));
        Edge.refuses("13: ahead(0, 1, 0) of nobody", Made::nothing, x -> x.ahead(0, 1, 0), Due.BEYOND);
    }

    /** 13: "What 1 to 4, 6 (as in of())". */
    private static void aheadWhat() {
        for (int what : new int[] {Edge.LEAST, -1, 0, 5, 7, 8, 9, 10, 11, Edge.MOST}) {
            Edge.refuses("13: ahead(6, " + what + ", 0)", Made::full, x -> x.ahead(6, what, 0), Due.BEYOND);
            Edge.refuses("13: ahead(6, " + what + ", 7)", Made::full, x -> x.ahead(6, what, 7), Due.BEYOND);
        }
        int[][] want = {{1, 68}, {2, 49}, {3, 36}, {4, 31}, {6, 75}};
        for (int[] w : want) {
            Edge.looks("13: ahead(6, " + w[0] + ", 0)", Made::full, x -> x.ahead(6, w[0], 0), w[1]);
        }
    }

    /** 13: "behind n (0 to 100) DROPS". */
    private static void aheadHowMany() {
        Edge.range("13: ahead(0, 3, n)", Made::angry, (x, n) -> x.ahead(0, 3, n), Edge.ends(0, 100),
            Edge.wants(0, 100));
        Edge.range("13: ahead(1, 4, n)", Made::angry, (x, n) -> x.ahead(1, 4, n), Edge.ends(0, 100),
            Edge.wants(0, 100));
        for (int n : new int[] {0, 1, 99, 100}) {
            Edge.looks("13: ahead(0, 3, " + n + ")", Made::angry, x -> x.ahead(0, 3, n), n);
            Edge.looks("13: ahead(0, 2, " + n + ")", Made::angry, x -> x.ahead(0, 2, n), n == 0 ? 99 : 98);
            Oracle then = oracle(n);
            for (int d = 0; d < 8; d++) {
                int one = d;
                Oracle.One told = then.all.get(d);
                String call = "13: ahead(" + d + ", what, " + n + "), full";
                Edge.answers(call + ", CAUSE", Made::full, x -> x.ahead(one, 1, n), told.cause);
                Edge.answers(call + ", TEMPER", Made::full, x -> x.ahead(one, 2, n), told.temper);
                Edge.answers(call + ", WRONG", Made::full, x -> x.ahead(one, 3, n), told.wrong);
                Edge.answers(call + ", RIGHT", Made::full, x -> x.ahead(one, 4, n), told.right);
                Edge.answers(call + ", PRESSES", Made::full, x -> x.ahead(one, 6, n), told.presses(then));
            }
        }
    }

    /** 14: "WRONG of one is v (0 to 9999) or more. BEYOND." */
    private static void wrongOneAndHowOften() {
        Edge.range("14: wrong(disputant, 0)", Made::full, (x, d) -> x.wrong(d, 0), Edge.ends(0, 7), Edge.wants(0, 0));
        Edge.range("14: wrong(0, v)", x -> {
            Made.angry(x);
            x.change(0, 3, 9990);
        }, (x, v) -> x.wrong(0, v), Edge.ends(0, 9999), Edge.wants(0, 9));
        Edge.refuses("14: wrong(0, 0) of nobody", Made::nothing, x -> x.wrong(0, 0), Due.BEYOND);
        // BEYOND is asked ahead of NONE.
        Edge.refuses("14: wrong(1, 9999)", Made::angry, x -> x.wrong(1, 9999), Due.NONE);
        Edge.refuses("14: wrong(2, 9999)", Made::angry, x -> x.wrong(2, 9999), Due.BEYOND);
        Edge.refuses("14: wrong(1, 10000)", Made::angry, x -> x.wrong(1, 10000), Due.BEYOND);
        int[][] rows = {{29, 0}, {30, 0}};
        for (int[] r : rows) {
            Edge.looks("14: wrong(0, " + r[0] + ") of 30", Made::full, x -> x.wrong(0, r[0]), r[1]);
        }
    }

    /** 14: "Behind how many DROPS (0 to 200, the fewest)". "NONE." */
    private static void wrongWithin200() {
        int[][] rows = {{0, 0, 0}, {0, 1, 1}, {0, 199, 199}, {0, 200, 200}, {0, 201, Due.NONE}, {0, 9999, Due.NONE},
            {5, 5, 0}, {5, 6, 1}, {5, 205, 200}, {5, 206, Due.NONE}, {9798, 9999, Due.NONE}, {9799, 9999, 200},
            {9800, 9999, 199}, {9998, 9999, 1}, {9999, 9999, 0}};
        for (int[] r : rows) {
            Edge.Making making = x -> {
                Made.angry(x);
                x.change(0, 3, r[0]);
            };
            Edge.told("14: wrong(0, " + r[1] + ") of " + r[0], making, x -> x.wrong(0, r[1]), r[2]);
        }
        // 0 is B, and presses less or as much: the 34th time is the 200th DROP in place 1, the 201st in place 2.
        for (int place = 1; place <= 2; place++) {
            int at = place;
            Edge.Making making = x -> seldom(x, at);
            Edge.told("14: wrong(0, 33) in place " + at, making, x -> x.wrong(0, 33), 193 + at);
            Edge.told("14: wrong(0, 34) in place " + at, making, x -> x.wrong(0, 34), at == 1 ? 200 : Due.NONE);
            Edge.told("15: right(1, 33) in place " + at, making, x -> x.right(1, 33), 193 + at);
            Edge.told("15: right(1, 34) in place " + at, making, x -> x.right(1, 34), at == 1 ? 200 : Due.NONE);
        }
    }

    /** 12 TURNS, once in six DROPS. */
    private static void seldom(ToastCourt x, int place) {
        Made.nothingListed(x);
        x.disputant(2, 0);
        x.disputant(2, 99);
        x.dispute(place, 1, 0);
    }

    /** 15: "RIGHT of one is v (0 to 9999) or more. BEYOND." */
    private static void rightOneAndHowOften() {
        Edge.range("15: right(disputant, 0)", Made::full, (x, d) -> x.right(d, 0), Edge.ends(0, 7), Edge.wants(0, 0));
        Edge.range("15: right(1, v)", x -> {
            Made.angry(x);
            x.change(1, 4, 9990);
        }, (x, v) -> x.right(1, v), Edge.ends(0, 9999), Edge.wants(0, 9));
        Edge.refuses("15: right(0, 0) of nobody", Made::nothing, x -> x.right(0, 0), Due.BEYOND);
        Edge.refuses("15: right(0, 9999)", Made::angry, x -> x.right(0, 9999), Due.NONE);
        Edge.refuses("15: right(2, 9999)", Made::angry, x -> x.right(2, 9999), Due.BEYOND);
        Edge.refuses("15: right(0, 10000)", Made::angry, x -> x.right(0, 10000), Due.BEYOND);
    }

    /** 15: "Behind how many DROPS (0 to 200, the fewest)". "NONE." */
    private static void rightWithin200() {
        int[][] rows = {{0, 0, 0}, {0, 1, 1}, {0, 199, 199}, {0, 200, 200}, {0, 201, Due.NONE}, {5, 5, 0}, {5, 6, 1},
            {9798, 9999, Due.NONE}, {9799, 9999, 200}, {9998, 9999, 1}, {9999, 9999, 0}};
        for (int[] r : rows) {
            Edge.Making making = x -> {
                Made.angry(x);
                x.change(1, 4, r[0]);
            };
            Edge.told("15: right(1, " + r[1] + ") of " + r[0], making, x -> x.right(1, r[1]), r[2]);
        }
    }

    /** 16: "Behind how many DROPS (1 to 200, the fewest) EDGES are more than now. NONE." */
    private static void standsWithin200() {
        Edge.told("16: stands() at once", Made::standing, ToastCourt::stands, 1);
        Edge.told("16: stands(), full", Made::full, ToastCourt::stands, 1);
        for (int place = 0; place < 6; place++) {
            int at = place;
            Edge.told("16: stands() in place " + at, x -> {
                Made.standing(x);
                Made.nothingListed(x);
                x.dispute(at, 0, 1);
            }, ToastCourt::stands, at + 1);
        }
        Edge.told("16: stands() of nobody", Made::nothing, ToastCourt::stands, Due.NONE);
        Edge.told("16: stands() of those who are silent", x -> {
            Made.standing(x);
            x.change(0, 5, 1);
        }, ToastCourt::stands, Due.NONE);
        Edge.told("16: more than now, not than none", x -> {
            Made.standing(x);
            x.go(3);
            x.set(0, 12);
        }, ToastCourt::stands, Due.NONE);
        Edge.told("16: stands() at the 200th", x -> standsLate(x, 1), ToastCourt::stands, 200);
        Edge.told("16: stands() at the 201st", x -> standsLate(x, 2), ToastCourt::stands, Due.NONE);
    }

    /**
     * 14 TURNS and, a round later, TEMPER of 1 as before, till it has learnt to press 96 at the 33rd
     * time; then 0 is found wrong, 1 cools, and the 34th time there are 13: the 200th DROP in place 1.
     */
    private static void standsLate(ToastCourt x, int place) {
        Made.nothingListed(x);
        x.disputant(2, 91);
        x.disputant(0, 0);
        x.dispute(place, 0, 1);
        x.set(0, 9);
        x.change(1, 2, 53 + place);
    }

    /** 17: "TEMPER of one is v (0 to 99) or less. BEYOND." */
    private static void calmOneAndHowMuch() {
        Edge.range("17: calm(disputant, 99)", Made::full, (x, d) -> x.calm(d, 99), Edge.ends(0, 7), Edge.wants(0, 0));
        Edge.range("17: calm(0, v)", x -> {
            x.disputant(5, 50);
            x.change(0, 2, 99);
        }, (x, v) -> x.calm(0, v), Edge.ends(0, 99), Edge.wants(20, 0));
        Edge.refuses("17: calm(0, 99) of nobody", Made::nothing, x -> x.calm(0, 99), Due.BEYOND);
        Edge.refuses("17: calm(0, 0)", Made::angry, x -> x.calm(0, 0), Due.NONE);
        Edge.refuses("17: calm(2, 0)", Made::angry, x -> x.calm(2, 0), Due.BEYOND);
        Edge.refuses("17: calm(0, -1)", Made::angry, x -> x.calm(0, -1), Due.BEYOND);
    }

    /** 17: "Behind how many DROPS (0 to 200, the fewest)". "NONE." */
    private static void calmWithin200() {
        int[][] rows = {{99, 99, 0}, {99, 98, 1}, {99, 94, 1}, {99, 93, 2}, {99, 4, 19}, {99, 3, 20}, {99, 0, 20},
            {0, 0, 0}, {5, 0, 1}, {6, 0, 2}, {20, 20, 0}, {20, 19, 1}};
        for (int[] r : rows) {
            Edge.told("17: calm(0, " + r[1] + ") of " + r[0], x -> {
                x.disputant(5, 50);
                x.change(0, 2, r[0]);
            }, x -> x.calm(0, r[1]), r[2]);
        }
        Edge.told("17: calm(0, 98) of the aunt", Made::angry, x -> x.calm(0, 98), 1);
        Edge.told("17: calm(0, 97) of the aunt", Made::angry, x -> x.calm(0, 97), Due.NONE);
        for (int place = 1; place <= 2; place++) {
            int at = place;
            Edge.Making making = x -> standsLate(x, at);
            Edge.told("17: calm(1, 47) in place " + at, making, x -> x.calm(1, 47), 198 + at);
            Edge.told("17: calm(1, 46) in place " + at, making, x -> x.calm(1, 46), at == 1 ? 200 : Due.NONE);
        }
    }

    /** "what will be (nothing changes)": of a full one, too. */
    private static void whatWillBe() {
        Edge.leaves("13: ahead", Made::full, x -> x.ahead(3, 6, 100));
        Edge.leaves("14: wrong", Made::full, x -> x.wrong(3, 40));
        Edge.leaves("15: right", Made::full, x -> x.right(3, 40));
        Edge.leaves("16: stands", Made::full, ToastCourt::stands);
        Edge.leaves("17: calm", Made::full, x -> x.calm(3, 0));
    }
}
