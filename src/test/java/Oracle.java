/**
 * The drops of the document told a second time, kind under kind as its words
 * go, so that the program's switches are held against something else.
 */
final class Oracle {
    static class One {
        int kind;
        int cause;
        int temper = 20;
        int wrong;
        int right;
        boolean silent;

        int presses(Oracle o) {
            return cause;
        }

        int jolts(Oracle o) {
            return temper / 10;
        }

        int grows() {
            return 6;
        }

        int learns() {
            return 3;
        }

        int cools() {
            return 1;
        }
    }

    static class Aunt extends One {
        @Override
        int presses(Oracle o) {
            return super.presses(o) + temper / 4;
        }

        @Override
        int jolts(Oracle o) {
            return super.jolts(o) + 1;
        }

        @Override
        int grows() {
            return 2 * super.grows();
        }

        @Override
        int learns() {
            return 0;
        }
    }

    static final class Twin extends Aunt {
        @Override
        int presses(Oracle o) {
            return Math.max(0, super.presses(o) - 5);
        }

        @Override
        int learns() {
            return super.learns() + 5;
        }

        @Override
        int cools() {
            return 2 * super.cools();
        }
    }

    static class Lawyer extends One {
        @Override
        int presses(Oracle o) {
            return super.presses(o) + o.spread;
        }

        @Override
        int jolts(Oracle o) {
            return 0;
        }

        @Override
        int grows() {
            return super.grows() / 2;
        }

        @Override
        int cools() {
            return super.cools() + 1;
        }
    }

    static class Parson extends Lawyer {
        @Override
        int presses(Oracle o) {
            return super.presses(o) + (o.spread >= 5 ? o.spread : 0);
        }

        @Override
        int jolts(Oracle o) {
            return super.jolts(o) + (o.drop % 2 == 1 ? 1 : 0);
        }

        @Override
        int grows() {
            return 0;
        }
    }

    static final class Bishop extends Parson {
        @Override
        int presses(Oracle o) {
            return Math.min(99, 2 * super.presses(o));
        }
    }

    static final class Child extends One {
        @Override
        int presses(Oracle o) {
            return super.presses(o) / 2;
        }

        @Override
        int jolts(Oracle o) {
            return super.jolts(o) + 3;
        }

        @Override
        int grows() {
            return super.grows() + 2;
        }

        @Override
        int learns() {
            return super.learns() + 4;
        }

        @Override
        int cools() {
            return 5;
        }
    }

    int height;
    int spread;
    int edges;
    int drop;
    final int[] list = new int[6];
    final java.util.List<One> all = new java.util.ArrayList<>();

    /** What the program tells of itself now, so that both can go on from there. */
    static Oracle of(ToastCourt x) {
        Oracle o = new Oracle();
        o.height = x.court(0);
        o.spread = x.court(1);
        o.edges = x.court(2);
        o.drop = x.now(0);
        for (int i = 0; i < 6; i++) {
            o.list[i] = x.listed(i);
        }
        for (int d = 0; d < x.count(1); d++) {
            One one = ofKind(x.of(d, 0));
            one.cause = x.of(d, 1);
            one.temper = x.of(d, 2);
            one.wrong = x.of(d, 3);
            one.right = x.of(d, 4);
            one.silent = x.of(d, 5) == 1;
            o.all.add(one);
        }
        return o;
    }

    static One ofKind(int kind) {
        One one = bare(kind);
        one.kind = kind;
        return one;
    }

    private static One bare(int kind) {
        switch (kind) {
            case 1:
                return new Aunt();
            case 2:
                return new Lawyer();
            case 3:
                return new Parson();
            case 4:
                return new Bishop();
            case 5:
                return new Child();
            case 6:
                return new Twin();
            default:
                return new One();
        }
    }

    /** The same as another kind. */
    static One as(One like, int kind) {
        One one = ofKind(kind);
        one.cause = like.cause;
        one.temper = like.temper;
        one.wrong = like.wrong;
        one.right = like.right;
        one.silent = like.silent;
        return one;
    }

    Oracle copy() {
        Oracle o = new Oracle();
        o.height = height;
        o.spread = spread;
        o.edges = edges;
        o.drop = drop;
        System.arraycopy(list, 0, o.list, 0, 6);
        for (One one : all) {
            o.all.add(as(one, one.kind));
        }
        return o;
    }

    Oracle go(int n) {
        for (int k = 0; k < n; k++) {
            goOnce();
        }
        return this;
    }

    boolean fallsOut() {
        int a = list[drop % 6] / 10;
        int b = list[drop % 6] % 10;
        return a >= all.size() || b >= all.size() || a == b || all.get(a).silent || all.get(b).silent;
    }

    private void goOnce() {
        int a = list[drop % 6] / 10;
        int b = list[drop % 6] % 10;
        if (!fallsOut()) {
            One found = falls(height, all.get(a), all.get(b));
            if (found == null) {
                edges = Math.min(9999, edges + 1);
            } else {
                One other = found == all.get(a) ? all.get(b) : all.get(a);
                found.wrong = Math.min(9999, found.wrong + 1);
                found.temper = Math.min(99, found.temper + found.grows());
                found.cause = Math.min(99, found.cause + found.learns());
                other.right = Math.min(9999, other.right + 1);
            }
        }
        for (One one : all) {
            one.temper = Math.max(0, one.temper - one.cools());
        }
        drop = Math.min(99999, drop + 1);
    }

    One falls(int from, One a, One b) {
        int turns = from * (10 - spread) / 7 + a.jolts(this) + b.jolts(this);
        if (turns % 13 == 0) {
            return null;
        }
        int more = Integer.compare(a.presses(this), b.presses(this));
        if (turns % 2 == 0) {
            return more < 0 ? a : b;
        }
        return more >= 0 ? a : b;
    }

    int wrongs() {
        int sum = 0;
        for (One one : all) {
            sum += one.wrong;
        }
        return sum;
    }

    /** A court of all sorts, the same one for the same number. */
    static ToastCourt anyCourt(long seed) {
        java.util.Random any = new java.util.Random(seed);
        ToastCourt x = new ToastCourt();
        int ones = seed % 5 == 0 ? 8 : 1 + any.nextInt(8);
        for (int d = 0; d < ones; d++) {
            x.disputant(any.nextInt(7), any.nextInt(100));
            x.change(d, 2, any.nextInt(100));
            if (any.nextInt(6) == 0) {
                x.change(d, 5, 1);
            }
            if (any.nextInt(12) == 0) {
                x.change(d, 3, 9990 + any.nextInt(10));
                x.change(d, 4, 9990 + any.nextInt(10));
            }
        }
        for (int i = 0; i < 6; i++) {
            x.dispute(i, any.nextInt(Math.min(8, ones + 1)), any.nextInt(Math.min(8, ones + 1)));
        }
        x.set(0, 1 + any.nextInt(60));
        x.set(1, any.nextInt(10));
        x.go(1 + any.nextInt(13));
        return x;
    }
}
