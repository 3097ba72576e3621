/**
 * Toast, dropped for whoever is wrong. What each call answers is told in the
 * project's document, promise by promise; words in capitals are its terms.
 */
public final class ToastCourt {
    private static final int BEYOND = -1000001;
    private static final int FULL = BEYOND - 1;
    private static final int KIND = BEYOND - 2;
    private static final int NONE = BEYOND - 3;
    private static final int STATE = BEYOND - 4;
    private static final int MISSING = BEYOND - 5;
    private static final int SIZE = BEYOND - 6;
    private static final int FINDINGS = 7;

    private static final int MOST_DISPUTANTS = 8;
    private static final int MOST_KIND = 6;
    private static final int MOST_FELT = 99;
    private static final int MOST_COUNTED = 9999;
    private static final int MOST_DROP = 99999;
    private static final int MOST_HEIGHT = 60;
    private static final int MOST_SPREAD = 9;
    private static final int PLACES = 6;
    private static final int SPOTS = 10;
    private static final int NOBODY = -1;

    private static final int FIRST_CAUSE = 50;
    private static final int FIRST_TEMPER = 20;

    private static final int SHEETS = 4;
    private static final int MOST_NUMBERS = 40;
    private static final int ANY = -1;
    private static final int MOST_BYTES = 120;

    private static final int FURTHEST = 200;

    private final Court real = new Court();
    // Every call that looks ahead uses this one again, so that no call makes objects.
    private final Court trial = new Court();
    private final Court kept = new Court();
    private boolean isKept = false;
    private final Tape tape = new Tape();
    private final Sheet[] sheets = new Sheet[SHEETS];
    private final int[] told = new int[FINDINGS];

    public ToastCourt() {
        for (int s = 0; s < SHEETS; s++) {
            sheets[s] = new Sheet();
        }
    }

    // ---- court, disputants

    public int set(int what, int v) {
        if (what == 0 && isWithin(v, 1, MOST_HEIGHT)) {
            int was = real.height;
            real.height = v;
            return was;
        }
        if (what == 1 && isWithin(v, 0, MOST_SPREAD)) {
            int was = real.spread;
            real.spread = v;
            return was;
        }
        return tell(BEYOND);
    }

    public int court(int what) {
        switch (what) {
            case 0:
                return real.height;
            case 1:
                return real.spread;
            case 2:
                return real.edges;
            default:
                return tell(BEYOND);
        }
    }

    public int dispute(int i, int a, int b) {
        if (!isPlace(i) || !isParty(a) || !isParty(b)) {
            return tell(BEYOND);
        }
        int was = real.list[i];
        real.list[i] = 10 * a + b;
        return was;
    }

    public int listed(int i) {
        return isPlace(i) ? real.list[i] : tell(BEYOND);
    }

    public int disputant(int kind, int cause) {
        if (!isWithin(kind, 0, MOST_KIND) || !isWithin(cause, 0, MOST_FELT)) {
            return tell(BEYOND);
        }
        if (real.isFull()) {
            return tell(FULL);
        }
        return real.admit(kind, cause);
    }

    public int of(int disputant, int what) {
        if (!real.has(disputant) || !isWithin(what, 0, Disputant.LAST_WHAT)) {
            return tell(BEYOND);
        }
        return real.all[disputant].tells(what, real.spread, real.drop);
    }

    public int change(int disputant, int what, int v) {
        if (!real.has(disputant) || !isWithin(what, 0, Disputant.LAST_CHANGED)) {
            return tell(BEYOND);
        }
        Disputant one = real.all[disputant];
        if (!isWithin(v, 0, one.most(what))) {
            return tell(BEYOND);
        }
        int was = one.tells(what, real.spread, real.drop);
        one.put(what, v);
        return was;
    }

    public int turning(int a, int b) {
        return real.areTwo(a, b) ? real.turns(real.height, a, b) : tell(BEYOND);
    }

    public int falls(int a, int b) {
        if (!real.areTwo(a, b)) {
            return tell(BEYOND);
        }
        int loser = real.loser(real.height, a, b);
        return loser == NOBODY ? tell(NONE) : loser;
    }

    // ---- drops

    public int go(int n) {
        if (!isWithin(n, 1, 60)) {
            return tell(BEYOND);
        }
        if (real.drop + n > MOST_DROP) {
            return tell(STATE);
        }
        for (int k = 0; k < n; k++) {
            real.dropOnce();
        }
        return real.wrongs();
    }

    public int now(int what) {
        switch (what) {
            case 0:
                return real.drop;
            case 1:
                return real.wrongs();
            case 2:
                return real.edges;
            case 3:
                return real.moreWrong();
            case 4:
                return real.tempers();
            case 5:
                return real.loudest();
            case 6:
                return real.silents();
            case 7:
                return real.fallsOut() ? 1 : 0;
            default:
                return tell(BEYOND);
        }
    }

    // ---- what will be (nothing changes)

    public int ahead(int disputant, int what, int n) {
        boolean isAsked = isWithin(what, Disputant.CAUSE, Disputant.RIGHT) || what == Disputant.PRESSES;
        if (!real.has(disputant) || !isAsked || !isWithin(n, 0, 100)) {
            return tell(BEYOND);
        }
        trial.become(real);
        for (int k = 0; k < n; k++) {
            trial.dropOnce();
        }
        return trial.all[disputant].tells(what, trial.spread, trial.drop);
    }

    public int wrong(int disputant, int v) {
        return dropsToReach(disputant, Disputant.WRONG, v);
    }

    public int right(int disputant, int v) {
        return dropsToReach(disputant, Disputant.RIGHT, v);
    }

    public int stands() {
        trial.become(real);
        for (int k = 1; k <= FURTHEST; k++) {
            trial.dropOnce();
            if (trial.edges > real.edges) {
                return k;
            }
        }
        return tell(NONE);
    }

    public int calm(int disputant, int v) {
        if (!real.has(disputant) || !isWithin(v, 0, MOST_FELT)) {
            return tell(BEYOND);
        }
        trial.become(real);
        for (int k = 0; k <= FURTHEST; k++) {
            if (trial.all[disputant].temper <= v) {
                return k;
            }
            trial.dropOnce();
        }
        return tell(NONE);
    }

    // ---- how to drop

    public int heightFor(int disputant, int n) {
        if (!real.has(disputant) || !isWithin(n, 0, 60)) {
            return tell(BEYOND);
        }
        for (int h = 1; h <= MOST_HEIGHT; h++) {
            trial.become(real);
            trial.height = h;
            if (trialLeavesWrong(disputant, n)) {
                return h;
            }
        }
        return tell(NONE);
    }

    public int spreadFor(int disputant, int n) {
        if (!real.has(disputant) || !isWithin(n, 0, 60)) {
            return tell(BEYOND);
        }
        int best = 0;
        int most = -1;
        for (int spread = 0; spread <= MOST_SPREAD; spread++) {
            trial.become(real);
            trial.spread = spread;
            int right = trialRight(disputant, n);
            if (right > most) {
                best = spread;
                most = right;
            }
        }
        return best;
    }

    public int kindFor(int disputant, int n) {
        if (!real.has(disputant) || !isWithin(n, 0, 60)) {
            return tell(BEYOND);
        }
        int best = 0;
        int most = -1;
        for (int kind = 0; kind <= MOST_KIND; kind++) {
            trial.become(real);
            trial.all[disputant].kind = kind;
            int right = trialRight(disputant, n);
            if (right > most) {
                best = kind;
                most = right;
            }
        }
        return best;
    }

    public int causeFor(int disputant, int v, int n) {
        if (!real.has(disputant) || !isWithin(v, 0, MOST_COUNTED) || !isWithin(n, 0, 40)) {
            return tell(BEYOND);
        }
        for (int cause = 0; cause <= MOST_FELT; cause++) {
            trial.become(real);
            trial.all[disputant].cause = cause;
            if (trialRight(disputant, n) >= v) {
                return cause;
            }
        }
        return tell(NONE);
    }

    public int against(int disputant, int n) {
        if (!real.has(disputant) || !isWithin(n, 0, 60)) {
            return tell(BEYOND);
        }
        int best = NOBODY;
        int most = -1;
        for (int other = 0; other < real.size; other++) {
            if (other != disputant) {
                trial.become(real);
                trial.list[trial.drop % PLACES] = 10 * disputant + other;
                int right = trialRight(disputant, n);
                if (right > most) {
                    best = other;
                    most = right;
                }
            }
        }
        return best == NOBODY ? tell(NONE) : best;
    }

    public int silence(int disputant, int n) {
        if (!real.has(disputant) || !isWithin(n, 0, 20)) {
            return tell(BEYOND);
        }
        int sets = 1 << real.size;
        for (int few = 0; few < real.size; few++) {
            for (int set = 0; set < sets; set++) {
                boolean isOfOthers = ((set >> disputant) & 1) == 0;
                if (isOfOthers && Integer.bitCount(set) == few) {
                    trial.become(real);
                    trial.hush(set);
                    if (trialLeavesWrong(disputant, n)) {
                        return set;
                    }
                }
            }
        }
        return tell(NONE);
    }

    // ---- told falls

    public int fits(int s, int disputant) {
        int finding = findingOfFalls(s, disputant);
        if (finding != 0) {
            return tell(finding);
        }
        int fitting = 0;
        for (int h = 1; h <= MOST_HEIGHT; h++) {
            trial.become(real);
            trial.height = h;
            if (trialIsAsTold(sheets[s], disputant)) {
                fitting++;
            }
        }
        return fitting;
    }

    public int height(int s, int disputant) {
        int finding = findingOfFalls(s, disputant);
        if (finding != 0) {
            return tell(finding);
        }
        for (int h = 1; h <= MOST_HEIGHT; h++) {
            trial.become(real);
            trial.height = h;
            if (trialIsAsTold(sheets[s], disputant)) {
                return h;
            }
        }
        return tell(NONE);
    }

    public int kinds(int s, int disputant) {
        int finding = findingOfFalls(s, disputant);
        if (finding != 0) {
            return tell(finding);
        }
        int set = 0;
        for (int kind = 0; kind <= MOST_KIND; kind++) {
            trial.become(real);
            trial.all[disputant].kind = kind;
            if (trialIsAsTold(sheets[s], disputant)) {
                set |= 1 << kind;
            }
        }
        return set;
    }

    // ---- drops by draws

    public int toss(int n) {
        if (!isWithin(n, 1, 20)) {
            return tell(BEYOND);
        }
        if (real.drop + n > MOST_DROP) {
            return tell(STATE);
        }
        for (int k = 0; k < n; k++) {
            int a = real.draw() % MOST_DISPUTANTS;
            int b = real.draw() % MOST_DISPUTANTS;
            real.list[real.drop % PLACES] = 10 * a + b;
            real.height = 1 + real.draw() % MOST_HEIGHT;
            real.dropOnce();
        }
        return real.wrongs();
    }

    public long odds(int a, int b, int n, int what) {
        if (!real.areTwo(a, b) || !isWithin(n, 0, 10) || !isWithin(what, 0, 1)) {
            return tell(BEYOND);
        }
        int good = 0;
        for (int h = 1; h <= MOST_HEIGHT; h++) {
            if (real.loser(h, a, b) == a) {
                good++;
            }
        }
        // A fraction in lowest terms stays so when it is raised to a power.
        int common = commonDivisor(MOST_HEIGHT, good);
        int base = (what == 0 ? good : MOST_HEIGHT) / common;
        long power = 1;
        for (int k = 0; k < n; k++) {
            power *= base;
        }
        return power;
    }

    public int seed(int v) {
        int was = real.z;
        real.z = v;
        return was;
    }

    // ---- texts

    public int feed(int bytes, int n) {
        if (!isWithin(n, 1, 4)) {
            return tell(BEYOND);
        }
        if (tape.size + n > MOST_BYTES) {
            return tell(FULL);
        }
        for (int k = n - 1; k >= 0; k--) {
            tape.append((bytes >> (8 * k)) & 255);
        }
        return tape.size;
    }

    public int wipe() {
        int had = tape.size;
        tape.size = 0;
        return had;
    }

    public int text() {
        trial.become(real);
        int items = tape.read(trial);
        tape.size = 0;
        if (items >= 0) {
            real.become(trial);
        }
        return items;
    }

    // ---- spots, sheets

    public int hold(int spot, int disputant) {
        if (!isWithin(spot, 0, SPOTS - 1) || disputant != NOBODY && !real.has(disputant)) {
            return tell(BEYOND);
        }
        real.spots[spot] = disputant;
        return 1;
    }

    public int as(int spot, int kind) {
        if (!isWithin(spot, 0, SPOTS - 1) || !isWithin(kind, 0, MOST_KIND)) {
            return tell(BEYOND);
        }
        int held = real.spots[spot];
        if (!real.has(held)) {
            return tell(MISSING);
        }
        return real.all[held].isOne(kind) ? held : tell(KIND);
    }

    public int sheet(int s, int bits, int n) {
        boolean isKnown = bits == 0 || bits == 8 || bits == 16 || bits == 32;
        if (!isSheet(s) || !isKnown) {
            return tell(BEYOND);
        }
        if (n < 0) {
            return tell(SIZE);
        }
        if (n > MOST_NUMBERS) {
            return tell(BEYOND);
        }
        sheets[s].renew(bits, bits == 0 ? 0 : n);
        return sheets[s].size;
    }

    public int write(int s, int i, int v) {
        int finding = findingOfSheet(s);
        if (finding != 0) {
            return tell(finding);
        }
        if (!isWithin(i, 0, sheets[s].size - 1)) {
            return tell(BEYOND);
        }
        sheets[s].put(i, v);
        return 1;
    }

    public int copy(int s, int from, int t, int to, int n) {
        if (!isSheet(s) || !isSheet(t)) {
            return tell(BEYOND);
        }
        Sheet source = sheets[s];
        Sheet target = sheets[t];
        if (source.isMissing() || target.isMissing()) {
            return tell(MISSING);
        }
        if (source.bits != target.bits) {
            return tell(KIND);
        }
        if (!source.hasRow(from, n) || !target.hasRow(to, n)) {
            return tell(BEYOND);
        }
        System.arraycopy(source.numbers, from, target.numbers, to, n);
        return n;
    }

    public int load(int s) {
        int finding = findingOfSheet(s);
        if (finding != 0) {
            return tell(finding);
        }
        Sheet source = sheets[s];
        int came = 0;
        while (came < source.size && real.has(came) && isWithin(source.numbers[came], 0, MOST_FELT)) {
            real.all[came].cause = source.numbers[came];
            came++;
        }
        return came;
    }

    public int judge(int s) {
        int finding = findingOfSheet(s);
        if (finding != 0) {
            return tell(finding);
        }
        Sheet read = sheets[s];
        for (int i = 0; i < read.size; i++) {
            if (!real.has(i) || real.all[i].wrong != read.numbers[i]) {
                return 1 + i;
            }
        }
        return 0;
    }

    // ---- images

    public int image() {
        kept.become(real);
        isKept = true;
        return 1;
    }

    public int undo() {
        if (!isKept) {
            return tell(NONE);
        }
        real.become(kept);
        return real.drop;
    }

    public int tear() {
        int had = isKept ? 1 : 0;
        isKept = false;
        return had;
    }

    public int count(int what) {
        switch (what) {
            case 0:
                return real.drop;
            case 1:
                return real.size;
            case 2:
                return real.wrongs();
            case 3:
                return real.edges;
            case 4:
                return real.tempers();
            case 5:
                return tape.size;
            case 6:
                return real.z;
            case 7:
                return real.heldSpots();
            default:
                return tell(BEYOND);
        }
    }

    public int status(int which) {
        if (isWithin(which, 0, FINDINGS - 1)) {
            return told[which];
        }
        if (which != -1) {
            return tell(BEYOND);
        }
        int all = 0;
        for (int f = 0; f < FINDINGS; f++) {
            all += told[f];
        }
        return all;
    }

    // ---- what several calls share

    private int tell(int finding) {
        int which = BEYOND - finding;
        if (isWithin(which, 0, FINDINGS - 1)) {
            told[which]++;
        }
        return finding;
    }

    private static boolean isWithin(int v, int least, int most) {
        return v >= least && v <= most;
    }

    private static boolean isPlace(int i) {
        return isWithin(i, 0, PLACES - 1);
    }

    private static boolean isParty(int party) {
        return isWithin(party, 0, MOST_DISPUTANTS - 1);
    }

    private static boolean isSheet(int s) {
        return isWithin(s, 0, SHEETS - 1);
    }

    private int findingOfSheet(int s) {
        if (!isSheet(s)) {
            return BEYOND;
        }
        return sheets[s].isMissing() ? MISSING : 0;
    }

    private int findingOfFalls(int s, int disputant) {
        int finding = findingOfSheet(s);
        if (finding != 0) {
            return finding;
        }
        return real.has(disputant) ? 0 : BEYOND;
    }

    private int dropsToReach(int disputant, int what, int v) {
        if (!real.has(disputant) || !isWithin(v, 0, MOST_COUNTED)) {
            return tell(BEYOND);
        }
        trial.become(real);
        for (int k = 0; k <= FURTHEST; k++) {
            if (trial.all[disputant].tells(what, trial.spread, trial.drop) >= v) {
                return k;
            }
            trial.dropOnce();
        }
        return tell(NONE);
    }

    private boolean trialLeavesWrong(int disputant, int n) {
        Disputant one = trial.all[disputant];
        int was = one.wrong;
        // WRONG never falls, so the first change settles it.
        for (int k = 0; k < n && one.wrong == was; k++) {
            trial.dropOnce();
        }
        return one.wrong == was;
    }

    private int trialRight(int disputant, int n) {
        for (int k = 0; k < n; k++) {
            trial.dropOnce();
        }
        return trial.all[disputant].right;
    }

    private boolean trialIsAsTold(Sheet falls, int disputant) {
        Disputant one = trial.all[disputant];
        for (int i = 0; i < falls.size; i++) {
            if (i > 0) {
                trial.dropOnce();
            }
            if (falls.numbers[i] != ANY && falls.numbers[i] != one.wrong) {
                return false;
            }
        }
        return true;
    }

    private static int commonDivisor(int a, int b) {
        for (int d = a; d > 1; d--) {
            if (a % d == 0 && b % d == 0) {
                return d;
            }
        }
        return 1;
    }

    private static final class Disputant {
        private static final int ITS_KIND = 0;
        private static final int CAUSE = 1;
        private static final int TEMPER = 2;
        private static final int WRONG = 3;
        private static final int RIGHT = 4;
        private static final int SILENT = 5;
        private static final int PRESSES = 6;
        private static final int JOLTS = 7;
        private static final int GROWS = 8;
        private static final int LEARNS = 9;
        private static final int COOLS = 10;
        private static final int LAST_CHANGED = SILENT;
        private static final int LAST_WHAT = COOLS;

        private static final int AUNT = 1;
        private static final int LAWYER = 2;
        private static final int PARSON = 3;
        private static final int BISHOP = 4;
        private static final int CHILD = 5;
        private static final int TWIN = 6;

        private int kind;
        private int cause;
        private int temper;
        private int wrong;
        private int right;
        private int silent;

        private void begin(int ofKind, int withCause) {
            kind = ofKind;
            cause = withCause;
            temper = FIRST_TEMPER;
            wrong = 0;
            right = 0;
            silent = 0;
        }

        private void become(Disputant other) {
            kind = other.kind;
            cause = other.cause;
            temper = other.temper;
            wrong = other.wrong;
            right = other.right;
            silent = other.silent;
        }

        private int most(int what) {
            switch (what) {
                case ITS_KIND:
                    return MOST_KIND;
                case CAUSE:
                case TEMPER:
                    return MOST_FELT;
                case WRONG:
                case RIGHT:
                    return MOST_COUNTED;
                default:
                    return 1;
            }
        }

        private void put(int what, int v) {
            switch (what) {
                case ITS_KIND:
                    kind = v;
                    break;
                case CAUSE:
                    cause = v;
                    break;
                case TEMPER:
                    temper = v;
                    break;
                case WRONG:
                    wrong = v;
                    break;
                case RIGHT:
                    right = v;
                    break;
                default:
                    silent = v;
                    break;
            }
        }

        private int tells(int what, int spread, int drop) {
            switch (what) {
                case ITS_KIND:
                    return kind;
                case CAUSE:
                    return cause;
                case TEMPER:
                    return temper;
                case WRONG:
                    return wrong;
                case RIGHT:
                    return right;
                case SILENT:
                    return silent;
                case PRESSES:
                    return presses(spread);
                case JOLTS:
                    return jolts(drop);
                case GROWS:
                    return grows();
                case LEARNS:
                    return learns();
                default:
                    return cools();
            }
        }

        private boolean isOne(int asked) {
            switch (asked) {
                case AUNT:
                    return kind == AUNT || kind == TWIN;
                case LAWYER:
                    return kind == LAWYER || kind == PARSON || kind == BISHOP;
                case PARSON:
                    return kind == PARSON || kind == BISHOP;
                case BISHOP:
                case CHILD:
                case TWIN:
                    return kind == asked;
                default:
                    return true;
            }
        }

        private int presses(int spread) {
            switch (kind) {
                case AUNT:
                    return cause + temper / 4;
                case TWIN:
                    return Math.max(cause + temper / 4 - 5, 0);
                case LAWYER:
                    return cause + spread;
                case PARSON:
                    return pressesAsParson(spread);
                case BISHOP:
                    return Math.min(2 * pressesAsParson(spread), 99);
                case CHILD:
                    return cause / 2;
                default:
                    return cause;
            }
        }

        private int pressesAsParson(int spread) {
            return cause + spread + (spread >= 5 ? spread : 0);
        }

        private int jolts(int drop) {
            switch (kind) {
                case AUNT:
                case TWIN:
                    return temper / 10 + 1;
                case LAWYER:
                    return 0;
                case PARSON:
                case BISHOP:
                    return drop % 2;
                case CHILD:
                    return temper / 10 + 3;
                default:
                    return temper / 10;
            }
        }

        private int grows() {
            switch (kind) {
                case AUNT:
                case TWIN:
                    return 12;
                case LAWYER:
                    return 3;
                case PARSON:
                case BISHOP:
                    return 0;
                case CHILD:
                    return 8;
                default:
                    return 6;
            }
        }

        private int learns() {
            switch (kind) {
                case AUNT:
                    return 0;
                case TWIN:
                    return 5;
                case CHILD:
                    return 7;
                default:
                    return 3;
            }
        }

        private int cools() {
            switch (kind) {
                case TWIN:
                case LAWYER:
                case PARSON:
                case BISHOP:
                    return 2;
                case CHILD:
                    return 5;
                default:
                    return 1;
            }
        }

        private void isFoundWrong() {
            wrong = Math.min(wrong + 1, MOST_COUNTED);
            temper = Math.min(temper + grows(), MOST_FELT);
            cause = Math.min(cause + learns(), MOST_FELT);
        }

        private void isFoundRight() {
            right = Math.min(right + 1, MOST_COUNTED);
        }

        private void coolDown() {
            temper = Math.max(temper - cools(), 0);
        }
    }

    /** All that an image keeps. */
    private static final class Court {
        private int height = 12;
        private int spread = 3;
        private int edges = 0;
        private int drop = 0;
        private int z = 1;
        private final int[] list = new int[PLACES];
        private final int[] spots = new int[SPOTS];
        private int size = 0;
        private final Disputant[] all = new Disputant[MOST_DISPUTANTS];

        private Court() {
            for (int i = 0; i < PLACES; i++) {
                list[i] = 1;
            }
            for (int spot = 0; spot < SPOTS; spot++) {
                spots[spot] = NOBODY;
            }
            for (int d = 0; d < MOST_DISPUTANTS; d++) {
                all[d] = new Disputant();
            }
        }

        private void become(Court other) {
            height = other.height;
            spread = other.spread;
            edges = other.edges;
            drop = other.drop;
            z = other.z;
            System.arraycopy(other.list, 0, list, 0, PLACES);
            System.arraycopy(other.spots, 0, spots, 0, SPOTS);
            size = other.size;
            for (int d = 0; d < size; d++) {
                all[d].become(other.all[d]);
            }
        }

        private boolean has(int disputant) {
            return disputant >= 0 && disputant < size;
        }

        private boolean areTwo(int a, int b) {
            return has(a) && has(b) && a != b;
        }

        private boolean isFull() {
            return size >= MOST_DISPUTANTS;
        }

        /** A new one; the caller has seen that there is room. */
        private int admit(int kind, int cause) {
            all[size].begin(kind, cause);
            size++;
            return size - 1;
        }

        private void hush(int set) {
            for (int d = 0; d < size; d++) {
                if (((set >> d) & 1) == 1) {
                    all[d].silent = 1;
                }
            }
        }

        private int draw() {
            z = z * 1103515245 + 12345;
            return z >>> 8;
        }

        private int turns(int from, int a, int b) {
            return from * (10 - spread) / 7 + all[a].jolts(drop) + all[b].jolts(drop);
        }

        /** For whom a slice falls from a height, or NOBODY if it stands. */
        private int loser(int from, int a, int b) {
            int turns = turns(from, a, b);
            if (turns % 13 == 0) {
                return NOBODY;
            }
            boolean pressesLessA = all[a].presses(spread) < all[b].presses(spread);
            boolean isForA = turns % 2 == 0 ? pressesLessA : !pressesLessA;
            return isForA ? a : b;
        }

        private boolean fallsOut() {
            int a = list[drop % PLACES] / 10;
            int b = list[drop % PLACES] % 10;
            return !areTwo(a, b) || all[a].silent == 1 || all[b].silent == 1;
        }

        private void dropOnce() {
            if (!fallsOut()) {
                letFall(list[drop % PLACES] / 10, list[drop % PLACES] % 10);
            }
            for (int d = 0; d < size; d++) {
                all[d].coolDown();
            }
            drop = Math.min(drop + 1, MOST_DROP);
        }

        private void letFall(int a, int b) {
            int loser = loser(height, a, b);
            if (loser == NOBODY) {
                edges = Math.min(edges + 1, MOST_COUNTED);
            } else {
                all[loser].isFoundWrong();
                all[loser == a ? b : a].isFoundRight();
            }
        }

        private int wrongs() {
            int sum = 0;
            for (int d = 0; d < size; d++) {
                sum += all[d].wrong;
            }
            return sum;
        }

        private int tempers() {
            int sum = 0;
            for (int d = 0; d < size; d++) {
                sum += all[d].temper;
            }
            return sum;
        }

        private int moreWrong() {
            int set = 0;
            for (int d = 0; d < size; d++) {
                if (all[d].wrong > all[d].right) {
                    set |= 1 << d;
                }
            }
            return set;
        }

        private int silents() {
            int set = 0;
            for (int d = 0; d < size; d++) {
                if (all[d].silent == 1) {
                    set |= 1 << d;
                }
            }
            return set;
        }

        private int loudest() {
            int best = NOBODY;
            int most = -1;
            for (int d = 0; d < size; d++) {
                int presses = all[d].presses(spread);
                if (presses > most) {
                    best = d;
                    most = presses;
                }
            }
            return best;
        }

        private int heldSpots() {
            int held = 0;
            for (int spot = 0; spot < SPOTS; spot++) {
                if (spots[spot] != NOBODY) {
                    held++;
                }
            }
            return held;
        }
    }

    /** A row of numbers, kept with their sign; of 0 bits while it is MISSING. */
    private static final class Sheet {
        private int bits = 0;
        private int size = 0;
        private final int[] numbers = new int[MOST_NUMBERS];

        private boolean isMissing() {
            return bits == 0;
        }

        private void renew(int ofBits, int n) {
            bits = ofBits;
            size = n;
            for (int i = 0; i < MOST_NUMBERS; i++) {
                numbers[i] = 0;
            }
        }

        private void put(int i, int v) {
            switch (bits) {
                case 8:
                    numbers[i] = (byte) v;
                    break;
                case 16:
                    numbers[i] = (short) v;
                    break;
                default:
                    numbers[i] = v;
                    break;
            }
        }

        private boolean hasRow(int from, int n) {
            // Taken from the size, since a sum of the two could wrap around.
            return from >= 0 && n >= 0 && n <= size && from <= size - n;
        }
    }

    /** THE TAPE, and the reading of a TEXT from it, token by token. */
    private static final class Tape {
        private static final int END = 0;
        private static final int WORD = 1;
        private static final int NUMBER = 2;
        private static final int SIGN = 3;
        private static final int NO_TOKEN = 4;
        private static final int MOST_NUMBER = 999;

        private final int[] bytes = new int[MOST_BYTES];
        private int size = 0;
        // The token that is looked at: what it is, its first byte, the byte behind it.
        private int token = END;
        private int at = 0;
        private int behind = 0;
        private int number = 0;

        /** The caller has seen that there is room. */
        private void append(int b) {
            bytes[size] = b;
            size++;
        }

        /** All that the text tells becomes so in a court: how many items, or -1 less the fault. */
        private int read(Court court) {
            behind = 0;
            step();
            for (int items = 1; items <= MOST_BYTES; items++) {
                if (!readItem(court)) {
                    break;
                }
                if (token == END) {
                    return items;
                }
                if (token != SIGN) {
                    break;
                }
                step();
            }
            return -1 - at;
        }

        /** The first word alone settles which item it is: behind it no other item is tried. */
        private boolean readItem(Court court) {
            int kind = kindOfWord();
            if (kind >= 0) {
                return readDisputant(court, kind);
            }
            if (isWord("dispute")) {
                return readDispute(court);
            }
            if (isWord("height")) {
                return readHeight(court);
            }
            if (isWord("spread")) {
                return readSpread(court);
            }
            return false;
        }

        private int kindOfWord() {
            if (isWord("disputant")) {
                return 0;
            }
            if (isWord("aunt")) {
                return Disputant.AUNT;
            }
            if (isWord("lawyer")) {
                return Disputant.LAWYER;
            }
            if (isWord("parson")) {
                return Disputant.PARSON;
            }
            if (isWord("bishop")) {
                return Disputant.BISHOP;
            }
            if (isWord("child")) {
                return Disputant.CHILD;
            }
            return isWord("twin") ? Disputant.TWIN : -1;
        }

        private boolean readDisputant(Court court, int kind) {
            if (court.isFull()) {
                return false;
            }
            Disputant one = court.all[court.admit(kind, FIRST_CAUSE)];
            step();
            if (isWord("cause")) {
                if (!stepsToNumber(0, MOST_FELT)) {
                    return false;
                }
                one.cause = number;
                step();
            }
            if (isWord("temper")) {
                if (!stepsToNumber(0, MOST_FELT)) {
                    return false;
                }
                one.temper = number;
                step();
            }
            if (isWord("silent")) {
                one.silent = 1;
                step();
            }
            return true;
        }

        private boolean readDispute(Court court) {
            if (!stepsToNumber(0, PLACES - 1)) {
                return false;
            }
            int place = number;
            if (!stepsToNumber(0, MOST_DISPUTANTS - 1)) {
                return false;
            }
            int a = number;
            if (!stepsToNumber(0, MOST_DISPUTANTS - 1)) {
                return false;
            }
            court.list[place] = 10 * a + number;
            step();
            return true;
        }

        private boolean readHeight(Court court) {
            if (!stepsToNumber(1, MOST_HEIGHT)) {
                return false;
            }
            court.height = number;
            step();
            return true;
        }

        private boolean readSpread(Court court) {
            if (!stepsToNumber(0, MOST_SPREAD)) {
                return false;
            }
            court.spread = number;
            step();
            return true;
        }

        /** Goes on by a token: whether that is a NUMBER within these bounds. */
        private boolean stepsToNumber(int least, int most) {
            step();
            return token == NUMBER && number >= least && number <= most;
        }

        private boolean isWord(String word) {
            if (token != WORD || behind - at != word.length()) {
                return false;
            }
            for (int k = 0; k < word.length(); k++) {
                if (bytes[at + k] != word.charAt(k)) {
                    return false;
                }
            }
            return true;
        }

        private void step() {
            at = behind;
            while (at < size && bytes[at] == ' ') {
                at++;
            }
            behind = at;
            if (at >= size) {
                token = END;
            } else if (isLetter(bytes[at])) {
                token = WORD;
                while (behind < size && isLetter(bytes[behind])) {
                    behind++;
                }
            } else if (isDigit(bytes[at])) {
                token = NUMBER;
                number = 0;
                while (behind < size && isDigit(bytes[behind])) {
                    // Held just above the most, so that no row of digits wraps around.
                    number = Math.min(10 * number + bytes[behind] - '0', MOST_NUMBER + 1);
                    behind++;
                }
            } else {
                token = bytes[at] == ';' ? SIGN : NO_TOKEN;
                behind++;
            }
        }

        private static boolean isLetter(int b) {
            return b >= 'a' && b <= 'z';
        }

        private static boolean isDigit(int b) {
            return b >= '0' && b <= '9';
        }
    }
}
