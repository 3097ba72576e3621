import java.util.Random;

/** Calls of all sorts with any arguments, in any state: each answers, and the state keeps its bounds. */
public final class AnyCallsTest {
    private static final int[] ODD = {0, -1, 1, 2, 7, 8, 9, 10, 40, 41, 60, 61, 99, 100, 120, 9999, 10000,
        Integer.MAX_VALUE, Integer.MIN_VALUE, Integer.MAX_VALUE - 1, -1000001};

    private static final String[] TEXTS = {"aunt", "twin cause 9", "dispute 0 1 2", "height 9;", "child silent;child",
        "spread", "lawyer temper 99 silent;bishop cause 9", "x", "height 999", ";"};

    public static void main(String[] args) {
        for (long seed = 0; seed < 200; seed++) {
            run(seed);
        }
        Due.end("AnyCallsTest");
    }

    private static void run(long seed) {
        Random any = new Random(seed);
        ToastCourt x = new ToastCourt();
        int findings = 0;
        for (int k = 0; k < 400; k++) {
            int call = any.nextInt(43);
            long answer = call(x, call, any);
            boolean isFinding = answer <= Due.BEYOND && answer >= Due.SIZE;
            // z may be any number, a finding's too.
            findings += isFinding && call != 27 && call != 40 ? 1 : 0;
        }
        Due.due("run " + seed + ": status(-1) but for count(), seed()", x.status(-1), findings + countFindings);
        countFindings = 0;
        bounds(x, seed);
    }

    private static int countFindings = 0;

    private static long call(ToastCourt x, int call, Random any) {
        int a = number(any);
        int b = number(any);
        int c = number(any);
        switch (call) {
            case 0: return x.set(a, b);
            case 1: return x.court(a);
            case 2: return x.dispute(a, b, c);
            case 3: return x.listed(a);
            case 4: return x.disputant(a, b);
            case 5: return x.of(a, b);
            case 6: return x.change(a, b, c);
            case 7: return x.turning(a, b);
            case 8: return x.falls(a, b);
            case 9: return x.go(a);
            case 10: return x.now(a);
            case 11: return x.ahead(a, b, c);
            case 12: return x.wrong(a, b);
            case 13: return x.right(a, b);
            case 14: return x.stands();
            case 15: return x.calm(a, b);
            case 16: return x.heightFor(a, b);
            case 17: return x.spreadFor(a, b);
            case 18: return x.kindFor(a, b);
            case 19: return x.causeFor(a, b, c);
            case 20: return x.against(a, b);
            case 21: return x.silence(a, b);
            case 22: return x.fits(a, b);
            case 23: return x.height(a, b);
            case 24: return x.kinds(a, b);
            default: return callMore(x, call, any, new int[] {a, b, c, number(any), number(any)});
        }
    }

    private static long callMore(ToastCourt x, int call, Random any, int[] in) {
        switch (call) {
            case 25: return x.toss(in[0]);
            case 26: return x.odds(in[0], in[1], in[2], in[3]);
            case 27: return x.seed(in[0]);
            case 28: return x.feed(in[0], in[1]);
            case 29: return x.wipe();
            case 30: return Due.text(x, TEXTS[any.nextInt(TEXTS.length)]);
            case 31: return x.hold(in[0], in[1]);
            case 32: return x.as(in[0], in[1]);
            case 33: return x.sheet(in[0], any.nextBoolean() ? 8 << any.nextInt(3) : in[1], in[2]);
            case 34: return x.write(in[0], in[1], in[2]);
            case 35: return x.copy(in[0], in[1], in[2], in[3], in[4]);
            case 36: return x.load(in[0]);
            case 37: return x.judge(in[0]);
            case 38: return x.image();
            case 39: return x.undo();
            case 40: return count(x, in[0]);
            case 41: return x.tear();
            default: return x.status(in[0]);
        }
    }

    private static long count(ToastCourt x, int what) {
        countFindings += what < 0 || what > 7 ? 1 : 0;
        return x.count(what);
    }

    private static int number(Random any) {
        switch (any.nextInt(6)) {
            case 0:
                return ODD[any.nextInt(ODD.length)];
            case 1:
                return any.nextInt(61);
            case 2:
                return any.nextInt();
            default:
                return any.nextInt(6);
        }
    }

    private static void bounds(ToastCourt x, long seed) {
        within(x.court(0), 1, 60, seed);
        within(x.court(1), 0, 9, seed);
        within(x.court(2), 0, 9999, seed);
        within(x.count(1), 0, 8, seed);
        within(x.count(5), 0, 120, seed);
        int[] most = {6, 99, 99, 9999, 9999, 1};
        for (int d = 0; d < x.count(1); d++) {
            for (int what = 0; what < 6; what++) {
                within(x.of(d, what), 0, most[what], seed);
            }
        }
    }

    private static void within(int v, int least, int most, long seed) {
        Due.due("run " + seed + ": " + v + " within " + least + " and " + most, v >= least && v <= most ? 1 : 0, 1);
    }
}
