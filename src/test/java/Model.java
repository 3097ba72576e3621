import java.math.BigInteger;
import java.util.ArrayList;
import java.util.Arrays;
import java.util.List;
import java.util.function.IntPredicate;
import java.util.function.IntUnaryOperator;
import java.util.regex.Matcher;
import java.util.regex.Pattern;

/** The whole document told a second time, as plainly as can be, so that long runs of calls are held against it. */
final class Model {
    private static final class Finding extends RuntimeException {
        private static final long serialVersionUID = 1L;
        private final int number;

        Finding(int number) {
            super(null, null, false, false);
            this.number = number;
        }
    }

    private static final Pattern TOKEN = Pattern.compile("[a-z]+|[0-9]+|;|[^ ]");

    private Oracle court = new Oracle();
    private int z = 1;
    private int[] spots = new int[10];
    private Oracle keptCourt = null;
    private int keptZ;
    private int[] keptSpots;
    private String tape = "";
    private final int[] bits = new int[4];
    private final int[][] sheets = new int[4][];
    private final int[] told = new int[7];

    Model() {
        court.height = 12;
        court.spread = 3;
        Arrays.fill(court.list, 1);
        Arrays.fill(spots, -1);
    }

    long answer(String name, int[] in) {
        try {
            return act(name, in);
        } catch (Finding f) {
            told[Due.BEYOND - f.number]++;
            return f.number;
        }
    }

    private static void need(boolean isSo, int finding) {
        if (!isSo) {
            throw new Finding(finding);
        }
    }

    private static boolean in(int v, int least, int most) {
        return least <= v && v <= most;
    }

    private static void range(int v, int least, int most) {
        need(in(v, least, most), Due.BEYOND);
    }

    private Oracle.One one(int d) {
        range(d, 0, court.all.size() - 1);
        return court.all.get(d);
    }

    private void two(int a, int b) {
        one(a);
        one(b);
        need(a != b, Due.BEYOND);
    }

    private int[] row(int s) {
        range(s, 0, 3);
        need(sheets[s] != null, Due.MISSING);
        return sheets[s];
    }

    private int sum(java.util.function.ToIntFunction<Oracle.One> what) {
        return court.all.stream().mapToInt(what).sum();
    }

    private int set(java.util.function.Predicate<Oracle.One> isSo) {
        int set = 0;
        for (int d = 0; d < court.all.size(); d++) {
            set += isSo.test(court.all.get(d)) ? 1 << d : 0;
        }
        return set;
    }

    private static int of(Oracle o, int d, int what) {
        Oracle.One one = o.all.get(d);
        int[] all = {one.kind, one.cause, one.temper, one.wrong, one.right, one.silent ? 1 : 0, one.presses(o),
            one.jolts(o), one.grows(), one.learns(), one.cools()};
        return all[what];
    }

    private long act(String name, int[] in) {
        switch (name) {
            case "set": return set(in[0], in[1]);
            case "court":
                range(in[0], 0, 2);
                return new int[] {court.height, court.spread, court.edges}[in[0]];
            case "dispute": return dispute(in[0], in[1], in[2]);
            case "listed":
                range(in[0], 0, 5);
                return court.list[in[0]];
            case "disputant": return disputant(in[0], in[1]);
            case "of":
                one(in[0]);
                range(in[1], 0, 10);
                return of(court, in[0], in[1]);
            case "change": return change(in[0], in[1], in[2]);
            case "turning":
                two(in[0], in[1]);
                return court.height * (10 - court.spread) / 7 + one(in[0]).jolts(court) + one(in[1]).jolts(court);
            case "falls":
                two(in[0], in[1]);
                Oracle.One found = court.falls(court.height, one(in[0]), one(in[1]));
                need(found != null, Due.NONE);
                return found == one(in[0]) ? in[0] : in[1];
            case "go":
                range(in[0], 1, 60);
                need(court.drop + in[0] <= 99999, Due.STATE);
                return court.go(in[0]).wrongs();
            case "now": return now(in[0]);
            default: return actAhead(name, in);
        }
    }

    private int set(int what, int v) {
        range(what, 0, 1);
        range(v, what == 0 ? 1 : 0, what == 0 ? 60 : 9);
        int was = what == 0 ? court.height : court.spread;
        court.height = what == 0 ? v : court.height;
        court.spread = what == 1 ? v : court.spread;
        return was;
    }

    private int dispute(int i, int a, int b) {
        range(i, 0, 5);
        range(a, 0, 7);
        range(b, 0, 7);
        int was = court.list[i];
        court.list[i] = 10 * a + b;
        return was;
    }

    private int disputant(int kind, int cause) {
        range(kind, 0, 6);
        range(cause, 0, 99);
        need(court.all.size() < 8, Due.FULL);
        Oracle.One one = Oracle.ofKind(kind);
        one.cause = cause;
        court.all.add(one);
        return court.all.size() - 1;
    }

    private int change(int d, int what, int v) {
        one(d);
        range(what, 0, 5);
        range(v, 0, new int[] {6, 99, 99, 9999, 9999, 1}[what]);
        int was = of(court, d, what);
        Oracle.One one = one(d);
        switch (what) {
            case 0:
                court.all.set(d, Oracle.as(one, v));
                break;
            case 1:
                one.cause = v;
                break;
            case 2:
                one.temper = v;
                break;
            case 3:
                one.wrong = v;
                break;
            case 4:
                one.right = v;
                break;
            default:
                one.silent = v == 1;
                break;
        }
        return was;
    }

    private int now(int what) {
        range(what, 0, 7);
        int loudest = -1;
        for (int d = court.all.size() - 1; d >= 0; d--) {
            boolean isLouder = loudest == -1 || one(d).presses(court) >= one(loudest).presses(court);
            loudest = isLouder ? d : loudest;
        }
        return new int[] {court.drop, court.wrongs(), court.edges, set(one -> one.wrong > one.right),
            sum(one -> one.temper), loudest, set(one -> one.silent), court.fallsOut() ? 1 : 0}[what];
    }

    private long actAhead(String name, int[] in) {
        switch (name) {
            case "ahead":
                one(in[0]);
                need(in(in[1], 1, 4) || in[1] == 6, Due.BEYOND);
                range(in[2], 0, 100);
                return of(court.copy().go(in[2]), in[0], in[1]);
            case "wrong":
            case "right":
                one(in[0]);
                range(in[1], 0, 9999);
                int what = name.equals("wrong") ? 3 : 4;
                return fewest(0, o -> of(o, in[0], what) >= in[1]);
            case "stands": return fewest(1, o -> o.edges > court.edges);
            case "calm":
                one(in[0]);
                range(in[1], 0, 99);
                return fewest(0, o -> o.all.get(in[0]).temper <= in[1]);
            default: return actHow(name, in);
        }
    }

    private int fewest(int least, java.util.function.Predicate<Oracle> isSo) {
        Oracle o = court.copy().go(least);
        for (int k = least; k <= 200; k++) {
            if (isSo.test(o)) {
                return k;
            }
            o.go(1);
        }
        throw new Finding(Due.NONE);
    }

    private static int first(int least, int most, IntPredicate isSo) {
        for (int v = least; v <= most; v++) {
            if (isSo.test(v)) {
                return v;
            }
        }
        throw new Finding(Due.NONE);
    }

    private static int best(int[] candidates, IntUnaryOperator worth) {
        int best = candidates[0];
        for (int v : candidates) {
            best = worth.applyAsInt(v) > worth.applyAsInt(best) ? v : best;
        }
        return best;
    }

    private Oracle with(java.util.function.Consumer<Oracle> change) {
        Oracle o = court.copy();
        change.accept(o);
        return o;
    }

    private static int[] upTo(int most) {
        return java.util.stream.IntStream.rangeClosed(0, most).toArray();
    }

    private long actHow(String name, int[] in) {
        int d = in.length > 0 ? in[0] : 0;
        switch (name) {
            case "heightFor":
                one(d);
                range(in[1], 0, 60);
                return first(1, 60, h -> with(o -> o.height = h).go(in[1]).all.get(d).wrong == one(d).wrong);
            case "spreadFor":
                one(d);
                range(in[1], 0, 60);
                return best(upTo(9), s -> with(o -> o.spread = s).go(in[1]).all.get(d).right);
            case "kindFor":
                one(d);
                range(in[1], 0, 60);
                return best(upTo(6), k -> ofKind(d, k).go(in[1]).all.get(d).right);
            case "causeFor":
                one(d);
                range(in[1], 0, 9999);
                range(in[2], 0, 40);
                return first(0, 99, c -> with(o -> o.all.get(d).cause = c).go(in[2]).all.get(d).right >= in[1]);
            case "against":
                one(d);
                range(in[1], 0, 60);
                int[] others = Arrays.stream(upTo(court.all.size() - 1)).filter(b -> b != d).toArray();
                need(others.length > 0, Due.NONE);
                return best(others, b -> with(o -> o.list[o.drop % 6] = 10 * d + b).go(in[1]).all.get(d).right);
            case "silence": return silence(d, in[1]);
            default: return actTold(name, in);
        }
    }

    private Oracle ofKind(int d, int kind) {
        return with(o -> o.all.set(d, Oracle.as(o.all.get(d), kind)));
    }

    private int silence(int d, int n) {
        one(d);
        range(n, 0, 20);
        List<Integer> sets = new ArrayList<>();
        for (int set = 0; set < 1 << court.all.size(); set++) {
            if ((set >> d & 1) == 0) {
                sets.add(set);
            }
        }
        sets.sort(java.util.Comparator.comparing(Integer::bitCount));
        for (int set : sets) {
            Oracle o = court.copy();
            for (int b = 0; b < o.all.size(); b++) {
                o.all.get(b).silent |= (set >> b & 1) == 1;
            }
            if (o.go(n).all.get(d).wrong == one(d).wrong) {
                return set;
            }
        }
        throw new Finding(Due.NONE);
    }

    private boolean isTold(Oracle o, int d, int[] row) {
        boolean isSo = true;
        for (int i = 0; i < row.length; i++) {
            o.go(i == 0 ? 0 : 1);
            isSo &= row[i] == -1 || row[i] == o.all.get(d).wrong;
        }
        return isSo;
    }

    private long actTold(String name, int[] in) {
        switch (name) {
            case "fits":
            case "height":
            case "kinds":
                int[] row = row(in[0]);
                one(in[1]);
                int[] fitting = Arrays.stream(upTo(60)).skip(1)
                    .filter(h -> isTold(with(o -> o.height = h), in[1], row)).toArray();
                if (name.equals("kinds")) {
                    return Arrays.stream(upTo(6)).filter(k -> isTold(ofKind(in[1], k), in[1], row))
                        .map(k -> 1 << k).sum();
                }
                need(name.equals("fits") || fitting.length > 0, Due.NONE);
                return name.equals("fits") ? fitting.length : fitting[0];
            case "toss":
                range(in[0], 1, 20);
                need(court.drop + in[0] <= 99999, Due.STATE);
                for (int k = 0; k < in[0]; k++) {
                    int a = draw() % 8;
                    int b = draw() % 8;
                    court.list[court.drop % 6] = 10 * a + b;
                    court.height = 1 + draw() % 60;
                    court.go(1);
                }
                return court.wrongs();
            case "odds": return odds(in);
            case "seed":
                int was = z;
                z = in[0];
                return was;
            default: return actText(name, in);
        }
    }

    private int draw() {
        z = z * 1103515245 + 12345;
        return z >>> 8;
    }

    private long odds(int[] in) {
        two(in[0], in[1]);
        range(in[2], 0, 10);
        range(in[3], 0, 1);
        long good = Arrays.stream(upTo(60)).skip(1)
            .filter(h -> court.falls(h, one(in[0]), one(in[1])) == one(in[0])).count();
        BigInteger above = BigInteger.valueOf(good).pow(in[2]);
        BigInteger below = BigInteger.valueOf(60).pow(in[2]);
        return (in[3] == 0 ? above : below).divide(above.gcd(below)).longValueExact();
    }

    private long actText(String name, int[] in) {
        switch (name) {
            case "feed":
                range(in[1], 1, 4);
                need(tape.length() + in[1] <= 120, Due.FULL);
                for (int k = in[1] - 1; k >= 0; k--) {
                    tape += (char) (in[0] >> 8 * k & 255);
                }
                return tape.length();
            case "wipe":
                int had = tape.length();
                tape = "";
                return had;
            case "text":
                String text = tape;
                tape = "";
                return text(text);
            default: return actSheets(name, in);
        }
    }

    private int text(String text) {
        StringBuilder soFar = new StringBuilder();
        List<String> tokens = new ArrayList<>();
        int ones = court.all.size();
        Matcher token = TOKEN.matcher(text);
        while (token.find()) {
            soFar.append(token.group()).append(' ');
            tokens.add(token.group());
            Matcher matcher = TextGrammarTest.TEXT.matcher(soFar);
            boolean canStand = matcher.matches() || matcher.hitEnd();
            ones += Arrays.asList(TextGrammarTest.KINDS).contains(token.group()) ? 1 : 0;
            if (!canStand || ones > 8) {
                return -1 - token.start();
            }
        }
        if (!TextGrammarTest.TEXT.matcher(soFar).matches()) {
            return -1 - text.length();
        }
        for (String item : String.join(" ", tokens).split(" ; ")) {
            tell(item.split(" "));
        }
        return (int) tokens.stream().filter(";"::equals).count() + 1;
    }

    private void tell(String[] item) {
        int[] number = Arrays.stream(item)
            .mapToInt(token -> token.matches("[0-9]+") ? new BigInteger(token).intValue() : 0).toArray();
        switch (item[0]) {
            case "height":
                court.height = number[1];
                break;
            case "spread":
                court.spread = number[1];
                break;
            case "dispute":
                court.list[number[1]] = 10 * number[2] + number[3];
                break;
            default:
                Oracle.One one = court.all.get(disputant(Arrays.asList(TextGrammarTest.KINDS).indexOf(item[0]), 50));
                for (int k = 1; k < item.length; k++) {
                    one.cause = item[k].equals("cause") ? number[k + 1] : one.cause;
                    one.temper = item[k].equals("temper") ? number[k + 1] : one.temper;
                    one.silent |= item[k].equals("silent");
                }
                break;
        }
    }

    private long actSheets(String name, int[] in) {
        switch (name) {
            case "hold":
                range(in[0], 0, 9);
                range(in[1], -1, court.all.size() - 1);
                spots[in[0]] = in[1];
                return 1;
            case "as": return as(in[0], in[1]);
            case "sheet": return sheet(in[0], in[1], in[2]);
            case "write":
                row(in[0]);
                range(in[1], 0, row(in[0]).length - 1);
                row(in[0])[in[1]] = in[2] << 32 - bits[in[0]] >> 32 - bits[in[0]];
                return 1;
            case "copy": return copy(in);
            case "load":
                int came = 0;
                for (int v : row(in[0])) {
                    if (!in(v, 0, 99) || came >= court.all.size()) {
                        break;
                    }
                    court.all.get(came).cause = v;
                    came++;
                }
                return came;
            case "judge":
                int[] row = row(in[0]);
                for (int i = 0; i < row.length; i++) {
                    if (i >= court.all.size() || court.all.get(i).wrong != row[i]) {
                        return 1 + i;
                    }
                }
                return 0;
            default: return actImages(name, in);
        }
    }

    private int as(int spot, int kind) {
        range(spot, 0, 9);
        range(kind, 0, 6);
        need(spots[spot] != -1, Due.MISSING);
        int[] under = {-1, 0, 0, 2, 3, 0, 1};
        int its = one(spots[spot]).kind;
        while (its != -1 && its != kind) {
            its = under[its];
        }
        need(its == kind, Due.KIND);
        return spots[spot];
    }

    private int sheet(int s, int ofBits, int n) {
        range(s, 0, 3);
        need(ofBits == 0 || ofBits == 8 || ofBits == 16 || ofBits == 32, Due.BEYOND);
        need(n >= 0, Due.SIZE);
        range(n, 0, 40);
        bits[s] = ofBits;
        sheets[s] = ofBits == 0 ? null : new int[n];
        return ofBits == 0 ? 0 : n;
    }

    private int copy(int[] in) {
        range(in[0], 0, 3);
        range(in[2], 0, 3);
        int[] from = row(in[0]);
        int[] to = row(in[2]);
        need(bits[in[0]] == bits[in[2]], Due.KIND);
        need(in[1] >= 0 && in[3] >= 0 && in[4] >= 0, Due.BEYOND);
        need((long) in[1] + in[4] <= from.length && (long) in[3] + in[4] <= to.length, Due.BEYOND);
        int[] were = from.clone();
        for (int k = 0; k < in[4]; k++) {
            to[in[3] + k] = were[in[1] + k];
        }
        return in[4];
    }

    private long actImages(String name, int[] in) {
        switch (name) {
            case "image":
                keptCourt = court.copy();
                keptZ = z;
                keptSpots = spots.clone();
                return 1;
            case "undo":
                need(keptCourt != null, Due.NONE);
                court = keptCourt.copy();
                z = keptZ;
                spots = keptSpots.clone();
                return court.drop;
            case "tear":
                int had = keptCourt == null ? 0 : 1;
                keptCourt = null;
                return had;
            case "count":
                range(in[0], 0, 7);
                return new int[] {court.drop, court.all.size(), court.wrongs(), court.edges, sum(one -> one.temper),
                    tape.length(), z, (int) Arrays.stream(spots).filter(held -> held != -1).count()}[in[0]];
            case "status":
                range(in[0], -1, 6);
                return in[0] == -1 ? Arrays.stream(told).sum() : told[in[0]];
            default:
                throw new IllegalStateException(name);
        }
    }
}
