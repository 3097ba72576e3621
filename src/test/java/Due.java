/** What the project's tests share: the findings, answers that are due, and texts fed byte by byte. */
final class Due {
    static final int BEYOND = -1000001;
    static final int FULL = -1000002;
    static final int KIND = -1000003;
    static final int NONE = -1000004;
    static final int STATE = -1000005;
    static final int MISSING = -1000006;
    static final int SIZE = -1000007;

    private static int asked = 0;
    private static int wrong = 0;

    private Due() {
    }

    static void due(String call, long got, long want) {
        asked++;
        if (got != want) {
            wrong++;
            System.out.println(call + " answered " + got + ", due is " + want);
        }
    }

    /** The answer is this finding, and status() counts one more of it and one more in all. */
    static void finds(ToastCourt x, String call, java.util.function.LongSupplier act, int finding) {
        int which = BEYOND - finding;
        int[] before = new int[7];
        for (int f = 0; f < 7; f++) {
            before[f] = x.status(f);
        }
        int all = x.status(-1);
        String was = picture(x);
        due(call, act.getAsLong(), finding);
        for (int f = 0; f < 7; f++) {
            due(call + ", then status(" + f + ")", x.status(f), before[f] + (f == which ? 1 : 0));
        }
        due(call + ", then status(-1)", x.status(-1), all + 1);
        due(call + " left all as it was", was.equals(picture(x)) ? 1 : 0, 1);
    }

    /** All that can be seen without a finding and without a change. */
    static String picture(ToastCourt x) {
        StringBuilder seen = new StringBuilder();
        for (int what = 0; what < 3; what++) {
            seen.append(x.court(what)).append(' ');
        }
        for (int i = 0; i < 6; i++) {
            seen.append(x.listed(i)).append(' ');
        }
        for (int what = 0; what < 8; what++) {
            seen.append(x.now(what)).append(' ').append(x.count(what)).append(' ');
        }
        for (int d = 0; d < x.count(1); d++) {
            for (int what = 0; what < 11; what++) {
                seen.append(x.of(d, what)).append(' ');
            }
        }
        return seen.toString();
    }

    static void feed(ToastCourt x, String text) {
        for (int k = 0; k < text.length(); k++) {
            x.feed(text.charAt(k), 1);
        }
    }

    static int text(ToastCourt x, String text) {
        x.wipe();
        feed(x, text);
        return x.text();
    }

    static void end(String test) {
        System.out.println(test + ": " + asked + " answers, " + wrong + " not as due");
        if (wrong != 0) {
            System.exit(1);
        }
    }
}
