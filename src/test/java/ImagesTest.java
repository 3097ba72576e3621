/** Promises 40 to 44: images, counts, status. */
public final class ImagesTest {
    public static void main(String[] args) {
        imageAndUndo();
        whatIsNotKept();
        latest();
        tear();
        count();
        status();
        Due.end("ImagesTest");
    }

    private static ToastCourt rich() {
        ToastCourt x = new ToastCourt();
        for (int d = 0; d < 4; d++) {
            x.disputant(d, 20 * d);
            x.change(d, 2, 9 + d);
            x.change(d, 3, 100 + d);
            x.change(d, 4, 200 + d);
        }
        x.change(3, 5, 1);
        for (int i = 0; i < 6; i++) {
            x.dispute(i, i, 7 - i);
        }
        x.set(0, 33);
        x.set(1, 8);
        x.seed(4711);
        x.hold(0, 3);
        x.hold(9, 1);
        x.go(5);
        return x;
    }

    private static void imageAndUndo() {
        ToastCourt x = rich();
        String was = Due.picture(x);
        Due.due("40: image()", x.image(), 1);
        Due.due("40: nothing changes", was.equals(Due.picture(x)) ? 1 : 0, 1);
        for (int round = 0; round < 2; round++) {
            x.disputant(6, 6);
            x.hold(5, 4);
            for (int what = 2; what < 6; what++) {
                x.change(4, what, 1);
            }
            x.hold(0, -1);
            x.set(0, 1);
            x.set(1, 1);
            for (int d = 0; d < 4; d++) {
                x.change(d, 0, 6 - d);
                x.change(d, 1, 1);
                x.change(d, 2, 1);
                x.change(d, 3, 1);
                x.change(d, 4, 1);
                x.change(d, 5, 1 - d / 3);
            }
            x.toss(20);
            x.go(9);
            Due.due("41: undo()", x.undo(), 5);
            Due.due("41: all is as it was", was.equals(Due.picture(x)) ? 1 : 0, 1);
            Due.due("41: spot 0", x.as(0, 0), 3);
            Due.due("41: spot 9", x.as(9, 0), 1);
            Due.due("41: spot 5", x.as(5, 0), Due.MISSING);
            Due.due("41: the 5th is gone", x.of(4, 0), Due.BEYOND);
        }
        Due.due("41: a new 5th", x.disputant(0, 44), 4);
        int[] first = {0, 44, 20, 0, 0, 0};
        for (int what = 0; what < 6; what++) {
            Due.due("41: nothing is left over of the old one: of(4, " + what + ")", x.of(4, what), first[what]);
        }
    }

    private static void whatIsNotKept() {
        ToastCourt x = rich();
        x.sheet(0, 8, 2);
        x.write(0, 0, 77);
        Due.feed(x, "spread");
        x.image();
        x.write(0, 0, 88);
        x.sheet(1, 16, 3);
        Due.feed(x, " 6");
        x.status(9);
        x.undo();
        Due.due("41: THE TAPE stays", x.count(5), 8);
        Due.due("41: and is a text", x.text(), 1);
        Due.due("41: SPREAD", x.court(1), 6);
        Due.due("41: sheet 0 stays", x.load(0), 2);
        Due.due("41: with its number", x.of(0, 1), 88);
        Due.due("41: sheet 1 stays", x.write(1, 2, 0), 1);
        Due.due("44: undo() takes no finding back", x.status(0), 1);
        Due.due("44: nor all", x.status(-1), 1);
    }

    private static void latest() {
        ToastCourt x = new ToastCourt();
        x.set(0, 1);
        x.image();
        x.set(0, 2);
        Due.due("40: image() again", x.image(), 1);
        x.set(0, 3);
        x.undo();
        Due.due("41: the latest", x.court(0), 2);
        x.undo();
        Due.due("41: which stays", x.court(0), 2);
        x.go(7);
        x.image();
        x.go(7);
        Due.due("41: DROP", x.undo(), 7);
    }

    private static void tear() {
        ToastCourt x = new ToastCourt();
        Due.due("42: tear() of nothing", x.tear(), 0);
        Due.finds(x, "41: undo() of nothing", () -> x.undo(), Due.NONE);
        x.image();
        x.image();
        Due.due("42: tear()", x.tear(), 1);
        Due.due("42: tear() again", x.tear(), 0);
        x.set(0, 5);
        Due.finds(x, "41: undo() of what is torn", () -> x.undo(), Due.NONE);
        Due.due("42: all as it is", x.court(0), 5);
        x.image();
        Due.due("42: undo() of a new one", x.undo(), 0);
        Due.due("42: tear() of a new one", x.tear(), 1);
    }

    private static void count() {
        ToastCourt x = new ToastCourt();
        x.disputant(2, 10);
        x.disputant(2, 20);
        x.disputant(0, 20);
        x.change(2, 3, 1000);
        x.set(0, 13);
        x.go(2);
        x.set(0, 12);
        x.go(1);
        Due.feed(x, "abc");
        x.seed(-5);
        x.hold(1, 1);
        x.hold(2, 1);
        x.hold(3, 0);
        x.hold(4, 0);
        x.hold(4, -1);
        // Two drops stood; then the lawyer 0, cooled to 16, grew by 3 and cooled by 2.
        int[] want = {3, 3, 1001, 2, 17 + 14 + 17, 3, -5, 3};
        for (int what = 0; what < 8; what++) {
            Due.due("43: count(" + what + ")", x.count(what), want[what]);
        }
        for (int what : new int[] {-1, 8, Integer.MAX_VALUE, Integer.MIN_VALUE}) {
            Due.finds(x, "43: count(" + what + ")", () -> x.count(what), Due.BEYOND);
        }
    }

    private static void status() {
        ToastCourt x = new ToastCourt();
        x.disputant(0, 0);
        x.hold(0, 0);
        // As often as its place tells, and once more.
        x.court(9);
        for (int k = 0; k < 2; k++) {
            for (int b = 0; b < 31; b++) {
                x.feed(0, 4);
            }
            x.wipe();
        }
        for (int k = 0; k < 3; k++) {
            x.as(0, 4);
        }
        for (int k = 0; k < 4; k++) {
            x.undo();
        }
        for (int k = 0; k < 6; k++) {
            x.load(0);
        }
        for (int k = 0; k < 7; k++) {
            x.sheet(0, 8, -1);
        }
        int[] want = {1, 2, 3, 4, 0, 6, 7};
        for (int which = 0; which < 7; which++) {
            Due.due("44: status(" + which + ")", x.status(which), want[which]);
        }
        Due.due("44: status(-1)", x.status(-1), 23);
        Due.due("44: status(7)", x.status(7), Due.BEYOND);
        Due.due("44: status(-2)", x.status(-2), Due.BEYOND);
        Due.due("44: both counted", x.status(0), 3);
        Due.due("44: in all", x.status(-1), 25);
        Due.finds(x, "44: status(most)", () -> x.status(Integer.MAX_VALUE), Due.BEYOND);
        Due.finds(x, "44: status(least)", () -> x.status(Integer.MIN_VALUE), Due.BEYOND);
        // A long's finding counts, too.
        Due.finds(x, "44: odds(0, 0, 1, 0)", () -> x.odds(0, 0, 1, 0), Due.BEYOND);
    }
}
