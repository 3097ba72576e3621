/** Promises 40 to 44, sentence by sentence, at their edges. */
public final class EdgesImagesTest {
    public static void main(String[] args) {
        imageAnswers();
        allIsKept();
        tapeAndSheetsAreNot();
        latestStays();
        undoNothing();
        undoDrop();
        tearOrNot();
        countWhat();
        countMost();
        statusWhich();
        statusOfEach();
        statusStays();
        Due.end("EdgesImagesTest");
    }

    /** 40: "1": again and again, of a new one and of a full one, and it changes nothing else. */
    private static void imageAnswers() {
        Edge.answers("40: image() at first", Made::nothing, ToastCourt::image, 1);
        Edge.answers("40: image(), full", Made::full, ToastCourt::image, 1);
        Edge.answers("40: image() twice", Made::full, x -> Edge.then(x.image(), x.image()), 1);
        Edge.leaves("40: image() and tear() of a new one", Made::nothing, x -> Edge.then(x.image(), x.tear()));
    }

    private interface Change {
        void on(ToastCourt x);
    }

    /** 40, 41: "All but THE TAPE and SHEETS is kept": each thing that can change alone. */
    private static void allIsKept() {
        Change[] changes = {x -> x.set(0, 1), x -> x.set(1, 0), x -> x.go(1), x -> x.go(60), x -> x.toss(20),
            x -> x.seed(0), x -> x.hold(0, 0), x -> x.hold(9, -1), x -> x.hold(4, 7), x -> x.dispute(0, 7, 7),
            x -> x.dispute(5, 0, 0), x -> x.change(0, 0, 6), x -> x.change(7, 1, 0), x -> x.change(0, 2, 0),
            x -> x.change(7, 3, 9999), x -> x.change(0, 4, 9999), x -> x.change(6, 5, 0), x -> x.change(0, 5, 1),
            x -> x.load(0)};
        Edge.Making kept = x -> {
            Made.full(x);
            x.image();
        };
        for (int k = 0; k < changes.length; k++) {
            Change change = changes[k];
            Edge.same("41: undo() of change " + k, kept, x -> {
                kept.make(x);
                change.on(x);
                x.undo();
            });
            Edge.same("40: change " + k + " leaves what is kept", kept, x -> {
                kept.make(x);
                change.on(x);
                x.undo();
                change.on(x);
                x.undo();
            });
        }
        // EDGES alone, with nobody found wrong.
        Edge.answers("41: EDGES", x -> {
            Made.standing(x);
            x.go(2);
            x.image();
            x.go(3);
            x.undo();
        }, x -> x.court(2), 2);
        someAndNobody();
    }

    /** From nobody to eight and back, and the other way round. */
    private static void someAndNobody() {
        Edge.same("41: undo() to a new one", x -> {
            x.image();
        }, x -> {
            x.image();
            for (int d = 0; d < 8; d++) {
                x.disputant(6, 99);
                x.change(d, 2, 99);
                x.change(d, 3, 99);
                x.change(d, 4, 99);
                x.change(d, 5, 1);
                x.hold(d, d);
            }
            x.toss(20);
            x.undo();
        });
        for (int has = 0; has < 8; has++) {
            int before = has;
            Edge.Making making = x -> {
                for (int d = 0; d < before; d++) {
                    x.disputant(5, d);
                }
                x.image();
                x.disputant(6, 99);
                for (int what = 2; what < 6; what++) {
                    x.change(before, what, 1);
                }
                x.hold(0, before);
                x.undo();
            };
            Edge.refuses("41: who came since is gone, " + has, making, x -> x.of(before, 0), Due.BEYOND);
            Edge.answers("41: a new one then, " + has, making, x -> x.disputant(0, 7), has);
            int[] first = {0, 7, 20, 0, 0, 0};
            for (int what = 0; what < 6; what++) {
                int w = what;
                Edge.answers("41: as at first, of(" + has + ", " + w + ")", making,
                    x -> Edge.then(x.disputant(0, 7), x.of(before, w)), first[w]);
                Edge.answers("41: as at first by a text, of(" + has + ", " + w + ")", making,
                    x -> Edge.then(Due.text(x, "disputant cause 7"), x.of(before, w)), first[w]);
            }
            Edge.refuses("41: and no spot holds it, " + has, making, x -> x.as(0, 0), Due.MISSING);
        }
    }

    /** 40: "All but THE TAPE and SHEETS": these stay as they are. */
    private static void tapeAndSheetsAreNot() {
        Change[] changes = {x -> x.feed(' ', 1), x -> x.wipe(), x -> Due.feed(x, ";spread 4"), x -> x.sheet(0, 0, 0),
            x -> x.sheet(3, 8, 5), x -> x.sheet(1, 32, 2), x -> x.write(0, 0, 99), x -> x.copy(1, 0, 1, 1, 3)};
        for (int k = 0; k < changes.length; k++) {
            Change change = changes[k];
            Edge.same("41: undo() leaves change " + k + " of tape and sheets", x -> {
                Made.full(x);
                x.image();
                change.on(x);
            }, x -> {
                Made.full(x);
                x.image();
                change.on(x);
                x.undo();
            });
        }
    }

    /** 41: "what was kept latest (which stays)". */
    private static void latestStays() {
        Edge.Making thrice = x -> {
            for (int v = 1; v <= 3; v++) {
                x.set(0, v);
                x.go(v);
                x.image();
            }
            x.set(0, 4);
        };
        Edge.answers("41: undo(), the latest", thrice, ToastCourt::undo, 6);
        for (int n = 1; n <= 3; n++) {
            int times = n;
            Edge.answers("41: HEIGHT behind " + n + " times undo()", thrice, x -> {
                for (int k = 0; k < times; k++) {
                    x.undo();
                }
                return x.court(0);
            }, 3);
        }
    }

    /** 41: "NONE: nothing is kept." */
    private static void undoNothing() {
        Edge.refuses("41: undo() at first", Made::nothing, ToastCourt::undo, Due.NONE);
        Edge.refuses("41: undo() behind tear()", x -> {
            Made.full(x);
            x.tear();
        }, ToastCourt::undo, Due.NONE);
        Edge.refuses("41: undo() behind tear() of two", x -> {
            x.image();
            x.image();
            x.tear();
        }, ToastCourt::undo, Due.NONE);
        Edge.answers("41: undo() of one kept behind tear()", x -> {
            x.image();
            x.tear();
            x.go(3);
            x.image();
        }, ToastCourt::undo, 3);
    }

    /** 41: "DROP": as it was kept, 0 and the last one, too. */
    private static void undoDrop() {
        Edge.answers("41: undo() at first", x -> x.image(), ToastCourt::undo, 0);
        Edge.answers("41: undo(), full", Made::full, ToastCourt::undo, 4);
        Edge.answers("41: undo() to 0", x -> {
            x.image();
            x.go(60);
        }, ToastCourt::undo, 0);
        Edge.answers("41: undo() to 99999", x -> {
            Made.late(x, 0);
            x.image();
        }, ToastCourt::undo, 99999);
        Edge.answers("41: go(60) behind undo() from 99999", x -> {
            x.image();
            Made.late(x, 0);
            x.undo();
        }, x -> Edge.then(x.go(60), x.now(0)), 60);
    }

    /** 42: "Nothing is kept: 1 if something was, else 0." */
    private static void tearOrNot() {
        Edge.looks("42: tear() at first", Made::nothing, ToastCourt::tear, 0);
        Edge.answers("42: tear(), full", Made::full, ToastCourt::tear, 1);
        Edge.answers("42: tear() twice", Made::full, x -> Edge.then(x.tear(), x.tear()), 0);
        Edge.answers("42: tear() behind undo()", Made::full, x -> Edge.then(x.undo(), x.tear()), 1);
        Edge.answers("42: tear() of one kept anew", Made::full, x -> {
            x.tear();
            x.image();
            return x.tear();
        }, 1);
        // But what is kept nothing changes.
        for (int what = 0; what < 8; what++) {
            int w = what;
            int want = Edge.made(Made::full).count(w);
            Edge.answers("42: count(" + w + ") behind tear()", Made::full, x -> Edge.then(x.tear(), x.count(w)), want);
        }
    }

    /** 43: "0 DROP, .. 7 SPOTS that hold something. BEYOND: another what." */
    private static void countWhat() {
        Edge.range("43: count(what)", Made::full, (x, what) -> x.count(what), Edge.ends(0, 7), Edge.wants(11, 2));
        Edge.range("43: count(what) at first", Made::nothing, (x, what) -> x.count(what), Edge.ends(0, 7),
            Edge.wants(0, 0));
        int[] want = {11, 8, 268, 2, 532, 31, -77, 2};
        for (int what = 0; what < 8; what++) {
            int w = what;
            Edge.looks("43: count(" + w + ")", Made::full, x -> x.count(w), want[w]);
        }
    }

    /** 43: the most that each can be; z may be a finding's number, which is none here. */
    private static void countMost() {
        Edge.Making most = x -> {
            for (int d = 0; d < 8; d++) {
                x.disputant(0, 0);
                x.change(d, 2, 99);
                x.change(d, 3, 9999);
            }
            for (int spot = 0; spot < 10; spot++) {
                x.hold(spot, 7);
            }
            for (int k = 0; k < 30; k++) {
                x.feed(0, 4);
            }
            x.seed(Due.BEYOND);
        };
        int[] want = {0, 8, 79992, 0, 792, 120, Due.BEYOND, 10};
        for (int what = 0; what < 8; what++) {
            int w = what;
            Edge.looks("43: count(" + w + "), the most", most, x -> x.count(w), want[w]);
        }
    }

    /** 44: "which -1: all, 0 to 6: BEYOND to SIZE. BEYOND (counted from then on): another one." */
    private static void statusWhich() {
        Edge.range("44: status(which)", Made::full, (x, which) -> x.status(which), Edge.ends(-1, 6), Edge.wants(8, 1));
        Edge.range("44: status(which) at first", Made::nothing, (x, which) -> x.status(which), Edge.ends(-1, 6),
            Edge.wants(0, 0));
        int[] want = {8, 2, 1, 1, 1, 0, 2, 1};
        for (int which = -1; which <= 6; which++) {
            int w = which;
            Edge.looks("44: status(" + w + ")", Made::full, x -> x.status(w), want[w + 1]);
        }
        for (int which : new int[] {-2, 7}) {
            ToastCourt x = new ToastCourt();
            for (int k = 1; k <= 3; k++) {
                Due.due("44: status(" + which + ") for the " + k + "th time", x.status(which), Due.BEYOND);
                Due.due("44: is counted from then on", x.status(0), k);
                Due.due("44: in all, too", x.status(-1), k);
            }
        }
    }

    /** 44: "How many acts answered a finding ever": each of the seven apart. */
    private static void statusOfEach() {
        Edge.Call[] acts = {x -> x.go(0), x -> x.feed(0, 1), x -> x.as(0, 1), x -> x.against(0, 1), x -> x.go(1),
            x -> x.load(0), x -> x.sheet(0, 0, -1)};
        int[] findings = {Due.BEYOND, Due.FULL, Due.KIND, Due.NONE, Due.STATE, Due.MISSING, Due.SIZE};
        ToastCourt x = new ToastCourt();
        x.disputant(0, 0);
        x.hold(0, 0);
        for (int k = 0; k < 30; k++) {
            x.feed(0, 4);
        }
        Made.late(x, 0);
        int[] told = new int[7];
        int all = 0;
        for (int round = 0; round < 3; round++) {
            for (int f = 0; f < 7; f++) {
                for (int k = 0; k <= f; k++) {
                    Due.due("44: act " + f, acts[f].on(x), findings[f]);
                    told[f]++;
                    all++;
                }
                for (int g = 0; g < 7; g++) {
                    Due.due("44: status(" + g + ")", x.status(g), told[g]);
                }
                Due.due("44: status(-1)", x.status(-1), all);
            }
        }
    }

    /** 44: "(undo() takes none back)"; what answers no finding isn't counted. */
    private static void statusStays() {
        ToastCourt x = Edge.made(Made::full);
        x.undo();
        int[] want = {8, 2, 1, 1, 1, 0, 2, 1};
        for (int which = -1; which <= 6; which++) {
            Due.due("44: status(" + which + ") behind undo()", x.status(which), want[which + 1]);
        }
        x.image();
        x.court(3);
        x.court(3);
        x.undo();
        Due.due("44: those since then, too", x.status(0), 4);
        x.tear();
        Due.due("44: tear() takes none back", x.status(0), 4);
        x.undo();
        Due.due("44: undo() of nothing counts itself", x.status(3), 2);
        x.text();
        x.text();
        Due.due("44: a FAULT is none", x.status(-1), 11);
    }
}
