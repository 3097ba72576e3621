import java.util.List;
import java.util.function.Function;

/**
 * What the tests of the sentences' edges share. Each call is made on a new object that a making
 * has prepared; what it left is looked at on further new ones, prepared likewise, so that a look
 * may spoil its object and none comes above its 512 calls.
 */
final class Edge {
    interface Making {
        void make(ToastCourt x);
    }

    interface Call {
        long on(ToastCourt x);
    }

    interface With {
        long on(ToastCourt x, int v);
    }

    static final int LEAST = Integer.MIN_VALUE;
    static final int MOST = Integer.MAX_VALUE;

    private static final List<Function<ToastCourt, String>> LOOKS = List.of(
        Due::picture, Edge::spots, Edge::sheets, Edge::tape, Edge::kept);

    private Edge() {
    }

    static ToastCourt made(Making making) {
        ToastCourt x = new ToastCourt();
        making.make(x);
        return x;
    }

    /** The answer, and that no finding is counted. */
    static void answers(String call, Making making, Call act, long want) {
        ToastCourt x = made(making);
        int findings = x.status(-1);
        Due.due(call, act.on(x), want);
        Due.due(call + ", then status(-1)", x.status(-1), findings);
    }

    /** The answer, that no finding is counted, and that nothing changes. */
    static void looks(String call, Making making, Call act, long want) {
        answers(call, making, act, want);
        leaves(call, making, act);
    }

    /** The finding, that status() counts it and no other, and that nothing else changes. */
    static void refuses(String call, Making making, Call act, int finding) {
        ToastCourt x = made(making);
        int[] before = statuses(x);
        Due.due(call, act.on(x), finding);
        int[] after = statuses(x);
        for (int f = 0; f < 7; f++) {
            Due.due(call + ", then status(" + f + ")", after[f], before[f] + (f == Due.BEYOND - finding ? 1 : 0));
        }
        Due.due(call + ", then status(-1)", after[7], before[7] + 1);
        leaves(call, making, act);
    }

    /** An answer or a finding, as is due; nothing changes but status(). */
    static void told(String call, Making making, Call act, int want) {
        if (want < -1000000) {
            refuses(call, making, act, want);
        } else {
            looks(call, making, act, want);
        }
    }

    /** What is from and to: BEYOND just below and just above (and far), an answer at both ends. */
    static void range(String call, Making making, With act, int[] ends, long[] wants) {
        for (int v : new int[] {LEAST, ends[0] - 1, ends[1] + 1, MOST}) {
            refuses(call + " with " + v, making, x -> act.on(x, v), Due.BEYOND);
        }
        for (int end = 0; end < 2; end++) {
            int v = ends[end];
            answers(call + " with " + v, making, x -> act.on(x, v), wants[end]);
        }
    }

    /** "STATE: DROP would be above 99999.": just at it, just above it, and behind BEYOND. */
    static void state(String call, With act, int most) {
        for (int[] r : new int[][] {{most, most}, {most - 1, most - 1}, {most + 1, most}, {1, 1}, {2, 1}}) {
            answers(call + "(" + r[1] + ") " + r[0] + " before the last, then DROP", x -> Made.late(x, r[0]),
                x -> then(act.on(x, r[1]), x.now(0)), 99999 - r[0] + r[1]);
        }
        for (int[] r : new int[][] {{most - 1, most}, {0, 1}, {0, most}, {1, 2}}) {
            refuses(call + "(" + r[1] + ") " + r[0] + " before the last", x -> Made.late(x, r[0]),
                x -> act.on(x, r[1]), Due.STATE);
        }
        for (int n : new int[] {LEAST, -1, 0, most + 1, MOST}) {
            refuses(call + "(" + n + ") at the last", x -> Made.late(x, 0), x -> act.on(x, n), Due.BEYOND);
        }
    }

    /** Nothing is other than if the call had not been made. */
    static void leaves(String call, Making making, Call act) {
        same(call + " changes nothing", making, x -> {
            making.make(x);
            act.on(x);
        });
    }

    /** Two ways to prepare an object that leave no difference (but, perhaps, in status()). */
    static void same(String what, Making one, Making other) {
        for (int k = 0; k < LOOKS.size(); k++) {
            String want = LOOKS.get(k).apply(made(one));
            String got = LOOKS.get(k).apply(made(other));
            if (!got.equals(want)) {
                System.out.println(what + ": look " + k + " is " + got + ", due is " + want);
            }
            Due.due(what + " (look " + k + ")", got.equals(want) ? 1 : 0, 1);
        }
    }

    /** For a call whose own answer isn't asked, but the one behind it. */
    static long then(long first, long answer) {
        return answer;
    }

    static int[] ends(int least, int most) {
        return new int[] {least, most};
    }

    static long[] wants(long atLeast, long atMost) {
        return new long[] {atLeast, atMost};
    }

    private static int[] statuses(ToastCourt x) {
        int[] all = new int[8];
        for (int f = 0; f < 7; f++) {
            all[f] = x.status(f);
        }
        all[7] = x.status(-1);
        return all;
    }

    static String spots(ToastCourt x) {
        StringBuilder seen = new StringBuilder();
        for (int spot = 0; spot < 10; spot++) {
            seen.append(x.as(spot, 0)).append(' ');
        }
        return seen.toString();
    }

    private static String sheets(ToastCourt x) {
        StringBuilder seen = new StringBuilder();
        for (int s = 0; s < 4; s++) {
            for (int t = s; t < 4; t++) {
                // Of as many bits or not, or MISSING: an empty sheet tells that, too.
                seen.append(x.copy(s, 0, t, 0, 0)).append(' ');
            }
        }
        for (int s = 0; s < 4; s++) {
            seen.append(numbers(x, s)).append(", ").append(bits(x, s)).append("; ");
        }
        return seen.toString();
    }

    /** Number by number: each comes to the begin of its own sheet and becomes the CAUSE of 0. */
    static String numbers(ToastCourt x, int s) {
        if (x.count(1) == 0) {
            x.disputant(0, 0);
        }
        StringBuilder seen = new StringBuilder();
        for (int i = 0; i < 40 && x.copy(s, i, s, 0, 1) == 1; i++) {
            seen.append(x.load(s) == 0 ? "?" : "" + x.of(0, 1)).append(' ');
        }
        return seen.toString().trim();
    }

    /** How many bits stay of a number that is written; 0 where none can be. */
    private static int bits(ToastCourt x, int s) {
        if (x.write(s, 0, 65536 + 7) != 1) {
            return 0;
        }
        if (x.load(s) == 0) {
            return 32;
        }
        x.write(s, 0, 256 + 7);
        return x.load(s) == 0 ? 16 : 8;
    }

    private static String tape(ToastCourt x) {
        return x.count(5) + " " + x.text() + " " + Due.picture(x);
    }

    private static String kept(ToastCourt x) {
        return x.undo() + " " + Due.picture(x) + " " + spots(x) + " " + x.tear();
    }
}
