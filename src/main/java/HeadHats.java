import java.util.Arrays;

/** A pawnshop whose hats keep thoughts of the heads that wore them. The document's numbered promises say what each call answers. */
public final class HeadHats {
    private static final int BEYOND = 0;
    private static final int FULL = 1;
    private static final int KIND = 2;
    private static final int NONE = 3;
    private static final int STATE = 4;
    private static final int MISSING = 5;
    private static final int SIZE = 6;
    private static final int FINDINGS = 7;
    private static final int FIRST_FINDING = -1000000001;

    private static final int KINDS = 6;
    private static final int THOUGHTS = 12;
    private static final int ALL_THOUGHTS = 4095;
    private static final int MOST_FRESH = 9;
    private static final int FIRM_FRESH = 3;
    private static final int MOST_HATS = 8;
    private static final int MOST_HEADS = 6;
    private static final int MOST_PLEDGE = 99;
    private static final int FIRST_PLEDGE = 5;
    private static final int MOST_PENNIES = 9999;
    private static final int LAST_WEEK = 9999;
    private static final int MOST_WEEKS_ON = 60;
    private static final int MOST_IN_ROW = 3;
    private static final int MOST_BYTES = 120;
    private static final int MOST_NUMBER = 9999;
    private static final int SHEETS = 4;
    private static final int MOST_IN_SHEET = 40;

    private final HatKind[] kinds = new HatKind[KINDS];
    private final Shop shop;
    private final Shop kept;
    private final Shop draft;
    private final Hat trial;
    private final Hat otherTrial;
    private final Tape tape = new Tape();
    private final Sheet[] sheets = new Sheet[SHEETS];
    private final int[] found = new int[FINDINGS];
    private boolean isKept = false;

    public HeadHats() {
        kinds[0] = new HatKind(0, "hat");
        kinds[1] = new Felt(1, "felt");
        kinds[2] = new Straw(2, "straw");
        kinds[3] = new Feather(3, "feather");
        kinds[4] = new Mitre(4, "mitre");
        kinds[5] = new Brim(5, "brim");
        shop = new Shop(kinds[0]);
        kept = new Shop(kinds[0]);
        draft = new Shop(kinds[0]);
        trial = new Hat(kinds[0]);
        otherTrial = new Hat(kinds[0]);
        for (int s = 0; s < SHEETS; s++) {
            sheets[s] = new Sheet();
        }
    }

    // ---- hats, heads

    public int hat(int kind) {
        if (!isUpTo(kind, KINDS - 1)) {
            return finding(BEYOND);
        }
        if (shop.hatCount >= MOST_HATS) {
            return finding(FULL);
        }
        shop.addHat(kinds[kind]);
        return shop.hatCount - 1;
    }

    public int fresh(int hat, int thought, int v) {
        if (!isHat(hat) || !isThought(thought) || !isUpTo(v, MOST_FRESH)) {
            return finding(BEYOND);
        }
        int was = shop.hats[hat].fresh[thought];
        shop.hats[hat].fresh[thought] = v;
        return was;
    }

    public int of(int hat, int what) {
        if (!isHat(hat)) {
            return finding(BEYOND);
        }
        Hat one = shop.hats[hat];
        switch (what) {
            case 0:
                return one.kind.number;
            case 1:
                return one.held();
            case 2:
                return one.pledge;
            case 3:
                return one.allFresh();
            case 4:
                return one.kind.faded(shop.week);
            default:
                return finding(BEYOND);
        }
    }

    public int told(int hat, int thought) {
        if (!isHat(hat) || !isThought(thought)) {
            return finding(BEYOND);
        }
        return shop.hats[hat].fresh[thought];
    }

    public int pledge(int hat, int v) {
        if (!isHat(hat) || !isUpTo(v, MOST_PLEDGE)) {
            return finding(BEYOND);
        }
        int was = shop.hats[hat].pledge;
        shop.hats[hat].pledge = v;
        return was;
    }

    public int turn(int hat, int kind) {
        if (!isHat(hat) || !isUpTo(kind, KINDS - 1)) {
            return finding(BEYOND);
        }
        int was = shop.hats[hat].kind.number;
        shop.hats[hat].kind = kinds[kind];
        return was;
    }

    public int as(int hat, int kind) {
        if (!isHat(hat) || !isUpTo(kind, KINDS - 1)) {
            return finding(BEYOND);
        }
        if (!shop.hats[hat].kind.isAlso(kind)) {
            return finding(KIND);
        }
        return shop.hats[hat].pledge;
    }

    public int head(int set) {
        if (!isSet(set)) {
            return finding(BEYOND);
        }
        if (shop.headCount >= MOST_HEADS) {
            return finding(FULL);
        }
        shop.addHead(set);
        return shop.headCount - 1;
    }

    public int about(int head, int what) {
        if (!isHead(head)) {
            return finding(BEYOND);
        }
        switch (what) {
            case 0:
                return shop.heads[head].has;
            case 1:
                return shop.heads[head].bald;
            case 2:
                return shop.heads[head].pennies;
            default:
                return finding(BEYOND);
        }
    }

    public int mind(int head, int what, int v) {
        if (!isHead(head) || !isMindful(what, v)) {
            return finding(BEYOND);
        }
        Head one = shop.heads[head];
        int was;
        if (what == 0) {
            was = one.has;
            one.has = v;
        } else if (what == 1) {
            was = one.bald;
            one.bald = v;
        } else {
            was = one.pennies;
            one.pennies = v;
        }
        return was;
    }

    public int moths(int v) {
        if (!isUpTo(v, 1)) {
            return finding(BEYOND);
        }
        int were = shop.moths;
        shop.moths = v;
        return were;
    }

    // ---- tried on, weeks

    public int takes(int hat, int head) {
        if (!isHat(hat) || !isHead(head)) {
            return finding(BEYOND);
        }
        return shop.hats[hat].takenBy(shop.heads[head].has);
    }

    public int keeps(int hat, int head) {
        if (!isHat(hat) || !isHead(head)) {
            return finding(BEYOND);
        }
        return shop.hats[hat].kind.keptFresh(shop.heads[head].has);
    }

    public int tries(int hat, int head) {
        if (!isHat(hat) || !isHead(head)) {
            return finding(BEYOND);
        }
        Hat worn = shop.hats[hat];
        Head wearer = shop.heads[head];
        int took = worn.takenBy(wearer.has);
        worn.remember(wearer.has);
        wearer.has = wearer.has | took;
        wearer.earn();
        return wearer.has;
    }

    public int redeem(int hat, int head) {
        if (!isHat(hat) || !isHead(head)) {
            return finding(BEYOND);
        }
        Hat one = shop.hats[hat];
        Head payer = shop.heads[head];
        if (payer.pennies < one.pledge) {
            return finding(STATE);
        }
        payer.pennies = payer.pennies - one.pledge;
        one.pledge = 0;
        return payer.pennies;
    }

    public int blend(int hat, int other) {
        if (!areTwoHats(hat, other)) {
            return finding(BEYOND);
        }
        shop.hats[hat].mixWith(shop.hats[other]);
        return shop.hats[hat].held();
    }

    public int stack(int hat, int other) {
        if (!areTwoHats(hat, other)) {
            return finding(BEYOND);
        }
        int one = shop.hats[hat].held();
        int two = shop.hats[other].held();
        int differ = one ^ two;
        // Bit t of this is bit t + 1 of differ, and bit 11 is its bit 0: the round of 12.
        int nextDiffer = (differ >> 1) | ((differ & 1) << (THOUGHTS - 1));
        return differ & ~nextDiffer & ALL_THOUGHTS;
    }

    public int weeks(int n) {
        if (n < 1 || n > MOST_WEEKS_ON) {
            return finding(BEYOND);
        }
        if (shop.week + n > LAST_WEEK) {
            return finding(STATE);
        }
        for (int i = 0; i < n; i++) {
            shop.passWeek();
        }
        return shop.allFresh();
    }

    public int now(int what) {
        switch (what) {
            case 0:
                return shop.week;
            case 1:
                return shop.allFresh();
            case 2:
                return shop.heldByAny();
            case 3:
                return shop.hadByAny();
            case 4:
                return shop.moths;
            case 5:
                return shop.allPennies();
            default:
                return finding(BEYOND);
        }
    }

    public int on(int hat, int n, int what) {
        if (!isHat(hat) || !isUpTo(n, MOST_WEEKS_ON) || !isUpTo(what, 1)) {
            return finding(BEYOND);
        }
        trial.become(shop.hats[hat]);
        passTrialWeeks(n);
        return what == 0 ? trial.held() : trial.allFresh();
    }

    public int gone(int hat, int thought) {
        if (!isHat(hat) || !isThought(thought)) {
            return finding(BEYOND);
        }
        trial.become(shop.hats[hat]);
        for (int n = 0; n <= MOST_WEEKS_ON; n++) {
            if (trial.fresh[thought] == 0) {
                return n;
            }
            trial.passWeek(shop.week + n, shop.moths);
        }
        return finding(NONE);
    }

    public int alike(int hat, int other) {
        if (!areTwoHats(hat, other)) {
            return finding(BEYOND);
        }
        trial.become(shop.hats[hat]);
        otherTrial.become(shop.hats[other]);
        for (int n = 0; n <= MOST_WEEKS_ON; n++) {
            if (trial.held() == otherTrial.held()) {
                return n;
            }
            trial.passWeek(shop.week + n, shop.moths);
            otherTrial.passWeek(shop.week + n, shop.moths);
        }
        return finding(NONE);
    }

    // ---- what is best

    public int best(int head) {
        if (!isHead(head)) {
            return finding(BEYOND);
        }
        if (shop.hatCount == 0) {
            return finding(NONE);
        }
        int has = shop.heads[head].has;
        int best = 0;
        int most = -1;
        for (int h = 0; h < shop.hatCount; h++) {
            int many = Integer.bitCount(has | shop.hats[h].takenBy(has));
            if (many > most) {
                most = many;
                best = h;
            }
        }
        return best;
    }

    public int row(int head, int set) {
        if (!isHead(head) || !isSet(set)) {
            return finding(BEYOND);
        }
        for (int n = 0; n <= MOST_IN_ROW; n++) {
            int named = firstRow(shop, shop.heads[head].has, set, 0, n, 100);
            if (named >= 0) {
                return named;
            }
        }
        return finding(NONE);
    }

    public int rows(int head, int set, int n) {
        if (!isHead(head) || !isSet(set) || !isUpTo(n, MOST_IN_ROW)) {
            return finding(BEYOND);
        }
        return countRows(shop, shop.heads[head].has, set, 0, n);
    }

    public int kind(int hat, int head) {
        if (!isHat(hat) || !isHead(head)) {
            return finding(BEYOND);
        }
        int has = shop.heads[head].has;
        int best = 0;
        int most = -1;
        trial.become(shop.hats[hat]);
        for (int k = 0; k < KINDS; k++) {
            trial.kind = kinds[k];
            int many = Integer.bitCount(has | trial.takenBy(has));
            if (many > most) {
                most = many;
                best = k;
            }
        }
        return best;
    }

    public int lasting(int hat, int n) {
        if (!isHat(hat) || !isUpTo(n, MOST_WEEKS_ON)) {
            return finding(BEYOND);
        }
        int best = 0;
        int most = -1;
        for (int k = 0; k < KINDS; k++) {
            trial.become(shop.hats[hat]);
            trial.kind = kinds[k];
            passTrialWeeks(n);
            int left = trial.allFresh();
            if (left > most) {
                most = left;
                best = k;
            }
        }
        return best;
    }

    public int worn(int hat) {
        if (!isHat(hat)) {
            return finding(BEYOND);
        }
        int set = 0;
        for (int d = 0; d < shop.headCount; d++) {
            if (shop.hats[hat].canComeFrom(shop.heads[d].has)) {
                set = set | (1 << d);
            }
        }
        return set;
    }

    public int before(int hat, int set) {
        if (!isHat(hat) || !isSet(set)) {
            return finding(BEYOND);
        }
        Hat one = shop.hats[hat];
        int held = one.held();
        int firm = one.heldFrom(FIRM_FRESH);
        for (int has = 0; has <= ALL_THOUGHTS; has++) {
            if (one.kind.taken(held, firm, has) == set) {
                return has;
            }
        }
        return finding(NONE);
    }

    // ---- the text

    public int feed(int bytes, int n) {
        if (n < 1 || n > 4) {
            return finding(BEYOND);
        }
        if (tape.size + n > MOST_BYTES) {
            return finding(FULL);
        }
        for (int i = n - 1; i >= 0; i--) {
            tape.add((bytes >>> (8 * i)) & 255);
        }
        return tape.size;
    }

    public int wipe() {
        int had = tape.size;
        tape.size = 0;
        return had;
    }

    public int shop() {
        // The items come to a draft, so that a fault late in the text leaves the shop as it was.
        draft.become(shop);
        int answer = tape.readItems(draft, kinds);
        tape.size = 0;
        if (answer >= 0) {
            shop.become(draft);
        }
        return answer;
    }

    // ---- sheets

    public int sheet(int s, int bits, int n) {
        if (!isSheet(s) || !areBits(bits)) {
            return finding(BEYOND);
        }
        if (n < 0) {
            return finding(SIZE);
        }
        if (n > MOST_IN_SHEET) {
            return finding(BEYOND);
        }
        sheets[s].begin(bits, bits == 0 ? 0 : n);
        return sheets[s].size;
    }

    public long write(int s, int i, long v) {
        if (!isSheet(s)) {
            return finding(BEYOND);
        }
        if (sheets[s].isMissing()) {
            return finding(MISSING);
        }
        if (i < 0 || i >= sheets[s].size) {
            return finding(BEYOND);
        }
        long was = sheets[s].numbers[i];
        sheets[s].put(i, v);
        return was;
    }

    public int copy(int s, int from, int t, int to, int n) {
        if (!isSheet(s) || !isSheet(t)) {
            return finding(BEYOND);
        }
        Sheet source = sheets[s];
        Sheet target = sheets[t];
        if (source.isMissing() || target.isMissing()) {
            return finding(MISSING);
        }
        if (source.bits != target.bits) {
            return finding(KIND);
        }
        if (!source.hasRange(from, n) || !target.hasRange(to, n)) {
            return finding(BEYOND);
        }
        System.arraycopy(source.numbers, from, target.numbers, to, n);
        return n;
    }

    public int lays(int s) {
        if (!isSheet(s)) {
            return finding(BEYOND);
        }
        Sheet told = sheets[s];
        if (told.isMissing()) {
            return finding(MISSING);
        }
        int came = 0;
        for (int h = 0; h < shop.hatCount && h < told.size; h++) {
            long v = told.numbers[h];
            if (v >= 0 && v <= MOST_PLEDGE) {
                shop.hats[h].pledge = (int) v;
                came++;
            }
        }
        return came;
    }

    public int book(int s, int hat) {
        if (!isSheet(s)) {
            return finding(BEYOND);
        }
        Sheet target = sheets[s];
        if (target.isMissing()) {
            return finding(MISSING);
        }
        if (!isHat(hat)) {
            return finding(BEYOND);
        }
        trial.become(shop.hats[hat]);
        for (int n = 0; n < target.size; n++) {
            target.put(n, trial.allFresh());
            trial.passWeek(shop.week + n, shop.moths);
        }
        return target.size;
    }

    public int read(int s, int hat) {
        if (!isSheet(s)) {
            return finding(BEYOND);
        }
        if (sheets[s].isMissing()) {
            return finding(MISSING);
        }
        if (!isHat(hat)) {
            return finding(BEYOND);
        }
        int pairs = 0;
        for (int k = 0; k < KINDS; k++) {
            for (int t = 0; t < THOUGHTS; t++) {
                trial.become(shop.hats[hat]);
                trial.kind = kinds[k];
                trial.fresh[t] = MOST_FRESH;
                if (trialGoesAs(sheets[s])) {
                    pairs++;
                }
            }
        }
        return pairs;
    }

    // ---- images

    public int image() {
        kept.become(shop);
        isKept = true;
        return 1;
    }

    public int undo() {
        if (!isKept) {
            return finding(NONE);
        }
        shop.become(kept);
        return shop.hatCount;
    }

    public int tear() {
        int was = isKept ? 1 : 0;
        isKept = false;
        return was;
    }

    public int count(int what) {
        switch (what) {
            case 0:
                return shop.hatCount;
            case 1:
                return tape.size;
            case 2:
                return shop.headCount;
            case 3:
                return shop.allPledges();
            default:
                return finding(BEYOND);
        }
    }

    public int status(int which) {
        if (which < -1 || which >= FINDINGS) {
            return finding(BEYOND);
        }
        if (which >= 0) {
            return found[which];
        }
        int all = 0;
        for (int i = 0; i < FINDINGS; i++) {
            all = all + found[i];
        }
        return all;
    }

    // ---- what the calls share

    private int finding(int which) {
        found[which]++;
        return FIRST_FINDING - which;
    }

    private static boolean isUpTo(int v, int most) {
        return v >= 0 && v <= most;
    }

    private static boolean isSet(int set) {
        return isUpTo(set, ALL_THOUGHTS);
    }

    private static boolean isThought(int thought) {
        return isUpTo(thought, THOUGHTS - 1);
    }

    private static boolean isSheet(int s) {
        return isUpTo(s, SHEETS - 1);
    }

    private static boolean areBits(int bits) {
        return bits == 0 || bits == 8 || bits == 16 || bits == 64;
    }

    private static boolean isMindful(int what, int v) {
        switch (what) {
            case 0:
                return isSet(v);
            case 1:
                return isUpTo(v, 1);
            case 2:
                return isUpTo(v, MOST_PENNIES);
            default:
                return false;
        }
    }

    private boolean isHat(int hat) {
        return hat >= 0 && hat < shop.hatCount;
    }

    private boolean isHead(int head) {
        return head >= 0 && head < shop.headCount;
    }

    private boolean areTwoHats(int hat, int other) {
        return isHat(hat) && isHat(other) && hat != other;
    }

    private void passTrialWeeks(int n) {
        for (int i = 0; i < n; i++) {
            trial.passWeek(shop.week + i, shop.moths);
        }
    }

    private boolean trialGoesAs(Sheet told) {
        for (int n = 0; n < told.size; n++) {
            if (trial.allFresh() != told.numbers[n]) {
                return false;
            }
            trial.passWeek(shop.week + n, shop.moths);
        }
        return true;
    }

    /** The first row of just `left` more hats by which all of a set is had, its first hat told in units of `unit`; -1: none. */
    private static int firstRow(Shop shop, int has, int set, int used, int left, int unit) {
        if (left <= 0) {
            return (has & set) == set ? 0 : -1;
        }
        for (int h = 0; h < shop.hatCount; h++) {
            if ((used & (1 << h)) == 0) {
                int then = has | shop.hats[h].takenBy(has);
                int rest = firstRow(shop, then, set, used | (1 << h), left - 1, unit / 10);
                if (rest >= 0) {
                    return unit * (h + 1) + rest;
                }
            }
        }
        return -1;
    }

    private static int countRows(Shop shop, int has, int set, int used, int left) {
        if (left <= 0) {
            return has == set ? 1 : 0;
        }
        int many = 0;
        for (int h = 0; h < shop.hatCount; h++) {
            if ((used & (1 << h)) == 0) {
                int then = has | shop.hats[h].takenBy(has);
                many = many + countRows(shop, then, set, used | (1 << h), left - 1);
            }
        }
        return many;
    }

    /** The kind HAT; each kind under it is a class under this one and tells only where it differs. */
    private static class HatKind {
        private final int number;
        private final String name;

        HatKind(int number, String name) {
            this.number = number;
            this.name = name;
        }

        boolean isAlso(int kind) {
            return kind == 0;
        }

        /** What a head that has a set takes of a hat, by what that holds and what of it is firm. */
        int taken(int held, int firm, int has) {
            return held;
        }

        int keptFresh(int has) {
            return MOST_FRESH;
        }

        int faded(int week) {
            return 1;
        }
    }

    private static class Felt extends HatKind {
        Felt(int number, String name) {
            super(number, name);
        }

        boolean isAlso(int kind) {
            return kind == 1 || super.isAlso(kind);
        }

        int taken(int held, int firm, int has) {
            return super.taken(held, firm, has) & firm;
        }

        int faded(int week) {
            return week % 2;
        }
    }

    private static class Straw extends HatKind {
        Straw(int number, String name) {
            super(number, name);
        }

        boolean isAlso(int kind) {
            return kind == 2 || super.isAlso(kind);
        }

        int taken(int held, int firm, int has) {
            return chosen(super.taken(held, firm, has) & ~has);
        }

        int chosen(int set) {
            return set & -set;
        }

        int keptFresh(int has) {
            return super.keptFresh(has) / 2;
        }

        int faded(int week) {
            return 2 * super.faded(week);
        }
    }

    private static final class Feather extends HatKind {
        Feather(int number, String name) {
            super(number, name);
        }

        boolean isAlso(int kind) {
            return kind == 3 || super.isAlso(kind);
        }

        int taken(int held, int firm, int has) {
            return super.taken(held, firm, has) & ~has;
        }

        int keptFresh(int has) {
            return Math.max(1, super.keptFresh(has) - Integer.bitCount(has));
        }
    }

    private static final class Mitre extends Felt {
        Mitre(int number, String name) {
            super(number, name);
        }

        boolean isAlso(int kind) {
            return kind == 4 || super.isAlso(kind);
        }

        int taken(int held, int firm, int has) {
            int asFelt = super.taken(held, firm, has);
            return asFelt == 0 ? 0 : asFelt | 1;
        }

        int faded(int week) {
            return super.faded(week) + (week % 3 == 0 ? 1 : 0);
        }
    }

    private static final class Brim extends Straw {
        Brim(int number, String name) {
            super(number, name);
        }

        boolean isAlso(int kind) {
            return kind == 5 || super.isAlso(kind);
        }

        int chosen(int set) {
            for (int t = THOUGHTS - 1; t >= 0; t--) {
                if ((set & (1 << t)) != 0) {
                    return 1 << t;
                }
            }
            return 0;
        }

        int keptFresh(int has) {
            return super.keptFresh(has) + 1;
        }

        int faded(int week) {
            return super.faded(week) - 1;
        }
    }

    private static final class Hat {
        private final int[] fresh = new int[THOUGHTS];
        private HatKind kind;
        private int pledge = FIRST_PLEDGE;

        Hat(HatKind kind) {
            this.kind = kind;
        }

        void begin(HatKind newKind) {
            kind = newKind;
            pledge = FIRST_PLEDGE;
            Arrays.fill(fresh, 0);
        }

        void become(Hat other) {
            kind = other.kind;
            pledge = other.pledge;
            System.arraycopy(other.fresh, 0, fresh, 0, THOUGHTS);
        }

        void hold(int set) {
            for (int t = 0; t < THOUGHTS; t++) {
                fresh[t] = (set & (1 << t)) != 0 ? MOST_FRESH : 0;
            }
        }

        int held() {
            return heldFrom(1);
        }

        int heldFrom(int least) {
            int set = 0;
            for (int t = 0; t < THOUGHTS; t++) {
                if (fresh[t] >= least) {
                    set = set | (1 << t);
                }
            }
            return set;
        }

        int allFresh() {
            int all = 0;
            for (int t = 0; t < THOUGHTS; t++) {
                all = all + fresh[t];
            }
            return all;
        }

        int takenBy(int has) {
            return kind.taken(held(), heldFrom(FIRM_FRESH), has);
        }

        void remember(int had) {
            int left = kind.keptFresh(had);
            for (int t = 0; t < THOUGHTS; t++) {
                if ((had & (1 << t)) != 0 && left > fresh[t]) {
                    fresh[t] = left;
                }
            }
        }

        boolean canComeFrom(int has) {
            return (heldFrom(kind.keptFresh(has)) & has) == has;
        }

        void mixWith(Hat other) {
            for (int t = 0; t < THOUGHTS; t++) {
                fresh[t] = (fresh[t] + other.fresh[t]) / 2;
            }
        }

        void passWeek(int week, int moths) {
            int less = kind.faded(week);
            for (int t = 0; t < THOUGHTS; t++) {
                fresh[t] = Math.max(0, fresh[t] - less);
            }
            if (moths == 1) {
                loseMiddle();
            }
        }

        void loseMiddle() {
            int many = Integer.bitCount(held());
            if (many < 3) {
                return;
            }
            int ahead = (many - 1) / 2;
            for (int t = 0; t < THOUGHTS; t++) {
                if (fresh[t] > 0) {
                    if (ahead == 0) {
                        fresh[t] = 0;
                        return;
                    }
                    ahead--;
                }
            }
        }
    }

    private static final class Head {
        private int has = 0;
        private int bald = 0;
        private int pennies = 0;

        void begin(int set) {
            has = set;
            bald = 0;
            pennies = 0;
        }

        void become(Head other) {
            has = other.has;
            bald = other.bald;
            pennies = other.pennies;
        }

        void earn() {
            pennies = Math.min(MOST_PENNIES, pennies + (bald == 1 ? 1 : 2));
        }
    }

    /** All that section 1 of the document tells but the tape: what an image keeps. */
    private static final class Shop {
        private final Hat[] hats = new Hat[MOST_HATS];
        private final Head[] heads = new Head[MOST_HEADS];
        private int hatCount = 0;
        private int headCount = 0;
        private int week = 0;
        private int moths = 0;

        Shop(HatKind plain) {
            for (int h = 0; h < MOST_HATS; h++) {
                hats[h] = new Hat(plain);
            }
            for (int d = 0; d < MOST_HEADS; d++) {
                heads[d] = new Head();
            }
        }

        void become(Shop other) {
            hatCount = other.hatCount;
            headCount = other.headCount;
            week = other.week;
            moths = other.moths;
            for (int h = 0; h < hatCount; h++) {
                hats[h].become(other.hats[h]);
            }
            for (int d = 0; d < headCount; d++) {
                heads[d].become(other.heads[d]);
            }
        }

        void addHat(HatKind kind) {
            if (hatCount < MOST_HATS) {
                hats[hatCount].begin(kind);
                hatCount++;
            }
        }

        void addHead(int set) {
            if (headCount < MOST_HEADS) {
                heads[headCount].begin(set);
                headCount++;
            }
        }

        void passWeek() {
            for (int h = 0; h < hatCount; h++) {
                hats[h].passWeek(week, moths);
            }
            week++;
        }

        int allFresh() {
            int all = 0;
            for (int h = 0; h < hatCount; h++) {
                all = all + hats[h].allFresh();
            }
            return all;
        }

        int allPledges() {
            int all = 0;
            for (int h = 0; h < hatCount; h++) {
                all = all + hats[h].pledge;
            }
            return all;
        }

        int allPennies() {
            int all = 0;
            for (int d = 0; d < headCount; d++) {
                all = all + heads[d].pennies;
            }
            return all;
        }

        int heldByAny() {
            int set = 0;
            for (int h = 0; h < hatCount; h++) {
                set = set | hats[h].held();
            }
            return set;
        }

        int hadByAny() {
            int set = 0;
            for (int d = 0; d < headCount; d++) {
                set = set | heads[d].has;
            }
            return set;
        }
    }

    /** The tape, and the reader of the text on it, which stands on one token at a time. */
    private static final class Tape {
        private static final int OTHER = 0;
        private static final int WORD = 1;
        private static final int NUMBER = 2;
        private static final int SIGN = 3;
        private static final int END = 4;

        private final int[] bytes = new int[MOST_BYTES];
        private int size = 0;
        private int token = END;
        private int start = 0;
        private int end = 0;

        void add(int b) {
            if (size < MOST_BYTES) {
                bytes[size] = b;
                size++;
            }
        }

        /** Brings all items to a shop: how many, or -1 less the place of the fault. */
        int readItems(Shop shop, HatKind[] kinds) {
            end = 0;
            int items = 0;
            while (items < MOST_BYTES) {
                nextToken();
                if (!readItem(shop, kinds)) {
                    return -1 - start;
                }
                items++;
                if (token == END) {
                    return items;
                }
                if (token != SIGN) {
                    return -1 - start;
                }
            }
            return -1 - start;
        }

        /** Goes past an item; false: the token that it stands on then can't stand there. */
        boolean readItem(Shop shop, HatKind[] kinds) {
            for (int k = 0; k < kinds.length; k++) {
                if (isWord(kinds[k].name)) {
                    return readHat(shop, kinds[k]);
                }
            }
            if (isWord("head")) {
                return readHead(shop);
            }
            if (isWord("moths")) {
                shop.moths = 1;
            } else if (isWord("none")) {
                shop.moths = 0;
            } else {
                return false;
            }
            nextToken();
            return true;
        }

        boolean readHat(Shop shop, HatKind kind) {
            if (shop.hatCount >= MOST_HATS) {
                return false;
            }
            Hat hat = shop.hats[shop.hatCount];
            shop.addHat(kind);
            nextToken();
            if (isWord("holds")) {
                nextToken();
                if (!isNumberUpTo(ALL_THOUGHTS)) {
                    return false;
                }
                hat.hold(numberHere());
                nextToken();
            }
            if (isWord("pledge")) {
                nextToken();
                if (!isNumberUpTo(MOST_PLEDGE)) {
                    return false;
                }
                hat.pledge = numberHere();
                nextToken();
            }
            return true;
        }

        boolean readHead(Shop shop) {
            if (shop.headCount >= MOST_HEADS) {
                return false;
            }
            Head head = shop.heads[shop.headCount];
            shop.addHead(0);
            nextToken();
            if (isWord("has")) {
                nextToken();
                if (!isNumberUpTo(ALL_THOUGHTS)) {
                    return false;
                }
                head.has = numberHere();
                nextToken();
            }
            if (isWord("bald")) {
                head.bald = 1;
                nextToken();
            }
            return true;
        }

        void nextToken() {
            start = end;
            while (start < size && bytes[start] == ' ') {
                start++;
            }
            end = start;
            token = tokenAt(start);
            if (token == END) {
                return;
            }
            end++;
            if (token == WORD || token == NUMBER) {
                while (end < size && tokenAt(end) == token) {
                    end++;
                }
            }
        }

        /** The token to which the byte at a place belongs. */
        int tokenAt(int place) {
            if (place < 0 || place >= size) {
                return END;
            }
            int b = bytes[place];
            if (b >= 'a' && b <= 'z') {
                return WORD;
            }
            if (b >= '0' && b <= '9') {
                return NUMBER;
            }
            return b == ';' ? SIGN : OTHER;
        }

        boolean isWord(String word) {
            if (token != WORD || end - start != word.length()) {
                return false;
            }
            for (int i = 0; i < word.length(); i++) {
                if (bytes[start + i] != word.charAt(i)) {
                    return false;
                }
            }
            return true;
        }

        boolean isNumberUpTo(int most) {
            return token == NUMBER && numberHere() <= most;
        }

        /** The number that stands here; one above the greatest stands for all that are too great. */
        int numberHere() {
            int v = 0;
            for (int i = start; i < end; i++) {
                v = Math.min(MOST_NUMBER + 1, 10 * v + bytes[i] - '0');
            }
            return v;
        }
    }

    /** A row of numbers, each held with its sign as one of so many bits; of 0 bits: it is missing. */
    private static final class Sheet {
        private final long[] numbers = new long[MOST_IN_SHEET];
        private int bits = 0;
        private int size = 0;

        void begin(int newBits, int newSize) {
            bits = newBits;
            size = newSize;
            Arrays.fill(numbers, 0L);
        }

        boolean isMissing() {
            return bits == 0;
        }

        boolean hasRange(int from, int n) {
            return from >= 0 && n >= 0 && from <= size - n;
        }

        void put(int i, long v) {
            if (i < 0 || i >= size) {
                return;
            }
            if (bits == 8) {
                numbers[i] = (byte) v;
            } else if (bits == 16) {
                numbers[i] = (short) v;
            } else {
                numbers[i] = v;
            }
        }
    }
}
