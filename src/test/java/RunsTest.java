import java.lang.reflect.Method;
import java.util.ArrayList;
import java.util.Arrays;
import java.util.List;
import java.util.Random;

/** Runs of 512 calls of all sorts: each answer is held against the model's. */
public final class RunsTest {
    /** Each call, and below what its numbers are as a rule; others are any of the edges. */
    private static final String[] CALLS = {"set 2 61", "court 3", "dispute 6 8 8", "listed 6", "disputant 7 100",
        "of 8 11", "change 8 6 3", "change 8 3 100", "turning 8 8", "falls 8 8", "go 61", "go 7", "now 8",
        "ahead 8 7 101", "wrong 8 40", "right 8 40", "stands", "calm 8 100", "heightFor 8 61", "spreadFor 8 61",
        "kindFor 8 61", "causeFor 8 20 41", "against 8 61", "silence 8 21", "fits 4 8", "height 4 8", "kinds 4 8",
        "toss 21", "odds 8 8 11 2", "seed 9999", "feed 256 5", "wipe", "text", "hold 10 8", "hold 10 8", "as 10 4",
        "as 10 7", "sheet 4 1 9", "sheet 4 1 41", "write 4 5 5", "write 4 41 100", "copy 4 6 4 6 6", "load 4",
        "judge 4", "image", "undo", "tear", "count 8", "status 7"};
    private static final int[] EDGES = {-2, -1, 0, 1, 2, 3, 4, 5, 6, 7, 8, 9, 10, 11, 12, 13, 16, 20, 21, 32, 39, 40,
        41, 59, 60, 61, 98, 99, 100, 101, 120, 128, 255, 256, 9998, 9999, 10000, 65535, 65536, -1000001,
        Integer.MAX_VALUE, Integer.MIN_VALUE};
    private static final String[] TEXTS = {"aunt", "twin cause 9", "dispute 0 1 2", "dispute 5 7 0", "height 60",
        "child silent", "spread 9", "lawyer temper 99 silent", "bishop cause 0 temper 0", "parson",
        "disputant cause 99", "height 61", "spread", "x", "", "aunt cause 100", "twin #"};
    private static final int FINE_TEXTS = 11;

    private final int seed;
    private final Random any;
    private final ToastCourt x = new ToastCourt();
    private final Model model = new Model();
    private int calls = 0;

    private RunsTest(int seed) {
        this.seed = seed;
        any = new Random(seed);
    }

    public static void main(String[] args) throws ReflectiveOperationException {
        for (int seed = 0; seed < 500; seed++) {
            new RunsTest(seed).run();
        }
        Due.end("RunsTest");
    }

    private void run() throws ReflectiveOperationException {
        // Most runs begin with some of them, so that calls find somebody.
        for (int d = seed % 10; d > 0; d--) {
            hold("disputant", any.nextInt(7), any.nextInt(100));
        }
        while (calls < 400) {
            if (any.nextInt(60) == 0) {
                text();
            } else {
                call(CALLS[any.nextInt(CALLS.length)].split(" "));
            }
        }
        while (calls < 512) {
            call(CALLS[any.nextInt(CALLS.length)].split(" "));
        }
    }

    private void call(String[] call) throws ReflectiveOperationException {
        int[] in = new int[call.length - 1];
        for (int k = 0; k < in.length; k++) {
            boolean isAsRuled = any.nextInt(3 + 5 * in.length) > 0;
            in[k] = isAsRuled ? any.nextInt(Integer.parseInt(call[k + 1])) : EDGES[any.nextInt(EDGES.length)];
        }
        if (call[0].equals("sheet") && in[1] == 0 && any.nextInt(5) > 0) {
            in[1] = 8 << any.nextInt(3);
        }
        hold(call[0], in);
    }

    private void hold(String name, int... in) throws ReflectiveOperationException {
        Class<?>[] types = new Class<?>[in.length];
        Arrays.fill(types, int.class);
        Method act = ToastCourt.class.getMethod(name, types);
        long got = ((Number) act.invoke(x, Arrays.stream(in).boxed().toArray())).longValue();
        Due.due("run " + seed + ", call " + calls + ": " + name + Arrays.toString(in), got, model.answer(name, in));
        calls++;
    }

    /** A text of some items, in parts of up to four bytes. */
    private void text() throws ReflectiveOperationException {
        List<String> items = new ArrayList<>();
        for (int n = any.nextInt(4); n >= 0; n--) {
            items.add(TEXTS[any.nextInt(any.nextInt(4) == 0 ? TEXTS.length : FINE_TEXTS)]);
        }
        String text = String.join(any.nextBoolean() ? ";" : " ; ", items);
        for (int at = 0; at < text.length();) {
            int n = Math.min(1 + any.nextInt(4), text.length() - at);
            int bytes = any.nextInt();
            for (int k = 0; k < n; k++) {
                bytes = bytes << 8 | text.charAt(at + k);
            }
            hold("feed", bytes, n);
            at += n;
        }
        if (any.nextInt(4) > 0) {
            hold("text");
        }
    }
}
