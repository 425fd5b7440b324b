import java.util.ArrayList;
import java.util.Arrays;
import java.util.List;
import java.util.TreeSet;
import java.util.regex.Matcher;
import java.util.regex.Pattern;

/** The document told over again as plainly as can be, with sets and lists: ModelTest holds HeadHats against it. */
final class Model {
    private static final String[] NAMES = {"hat", "felt", "straw", "feather", "mitre", "brim"};

    static final class Hat {
        int kind;
        int pledge = 5;
        int[] fresh = new int[12];

        Hat(int kind) {
            this.kind = kind;
        }

        Hat same() {
            Hat h = new Hat(kind);
            h.pledge = pledge;
            h.fresh = fresh.clone();
            return h;
        }
    }

    static final class Head {
        TreeSet<Integer> has;
        boolean bald = false;
        int pennies = 0;

        Head(TreeSet<Integer> has) {
            this.has = has;
        }

        Head same() {
            Head d = new Head(new TreeSet<>(has));
            d.bald = bald;
            d.pennies = pennies;
            return d;
        }
    }

    static final class State {
        List<Hat> hats = new ArrayList<>();
        List<Head> heads = new ArrayList<>();
        int week = 0;
        int moths = 0;

        State same() {
            State s = new State();
            for (Hat h : hats) {
                s.hats.add(h.same());
            }
            for (Head d : heads) {
                s.heads.add(d.same());
            }
            s.week = week;
            s.moths = moths;
            return s;
        }
    }

    private State now = new State();
    private State image = null;
    private final StringBuilder tape = new StringBuilder();
    private final int[] bits = new int[4];
    private final long[][] sheets = new long[4][];
    private final int[] found = new int[7];

    private int find(int finding) {
        found[Due.BEYOND - finding]++;
        return finding;
    }

    private static TreeSet<Integer> set(int bits) {
        TreeSet<Integer> s = new TreeSet<>();
        for (int t = 0; t < 12; t++) {
            if (bits / (1 << t) % 2 == 1) {
                s.add(t);
            }
        }
        return s;
    }

    private static int bits(Iterable<Integer> set) {
        int sum = 0;
        for (int t : set) {
            sum += 1 << t;
        }
        return sum;
    }

    private static TreeSet<Integer> holds(Hat h) {
        TreeSet<Integer> s = new TreeSet<>();
        for (int t = 0; t < 12; t++) {
            if (h.fresh[t] != 0) {
                s.add(t);
            }
        }
        return s;
    }

    private static int sum(Hat h) {
        return Arrays.stream(h.fresh).sum();
    }

    private static TreeSet<Integer> takes(Hat h, TreeSet<Integer> has) {
        TreeSet<Integer> took = holds(h);
        if (h.kind == 1 || h.kind == 4) {
            took.removeIf(t -> h.fresh[t] < 3);
            if (h.kind == 4 && !took.isEmpty()) {
                took.add(0);
            }
        }
        if (h.kind == 2 || h.kind == 3 || h.kind == 5) {
            took.removeAll(has);
        }
        if ((h.kind == 2 || h.kind == 5) && !took.isEmpty()) {
            int one = h.kind == 2 ? took.first() : took.last();
            took = new TreeSet<>(List.of(one));
        }
        return took;
    }

    private static int keeps(Hat h, TreeSet<Integer> has) {
        return new int[] {9, 9, 4, Math.max(1, 9 - has.size()), 9, 5}[h.kind];
    }

    private static int fades(int kind, int w) {
        return new int[] {1, w % 2, 2, 1, w % 2 + (w % 3 == 0 ? 1 : 0), 1}[kind];
    }

    private static void week(Hat h, int w, int moths) {
        int less = fades(h.kind, w);
        for (int t = 0; t < 12; t++) {
            h.fresh[t] = h.fresh[t] > less ? h.fresh[t] - less : 0;
        }
        List<Integer> held = new ArrayList<>(holds(h));
        if (moths == 1 && held.size() >= 3) {
            int middle = held.size() % 2 == 1 ? held.size() / 2 : held.size() / 2 - 1;
            h.fresh[held.get(middle)] = 0;
        }
    }

    private Hat later(Hat h, int n) {
        Hat then = h.same();
        for (int i = 0; i < n; i++) {
            week(then, now.week + i, now.moths);
        }
        return then;
    }

    private boolean noHat(int h) {
        return h < 0 || h >= now.hats.size();
    }

    private boolean noHead(int d) {
        return d < 0 || d >= now.heads.size();
    }

    private static boolean out(int v, int least, int most) {
        return v < least || v > most;
    }

    int hat(int kind) {
        if (out(kind, 0, 5)) {
            return find(Due.BEYOND);
        }
        if (now.hats.size() == 8) {
            return find(Due.FULL);
        }
        now.hats.add(new Hat(kind));
        return now.hats.size() - 1;
    }

    int fresh(int hat, int thought, int v) {
        if (noHat(hat) || out(thought, 0, 11) || out(v, 0, 9)) {
            return find(Due.BEYOND);
        }
        int was = now.hats.get(hat).fresh[thought];
        now.hats.get(hat).fresh[thought] = v;
        return was;
    }

    int of(int hat, int what) {
        if (noHat(hat) || out(what, 0, 4)) {
            return find(Due.BEYOND);
        }
        Hat h = now.hats.get(hat);
        return new int[] {h.kind, bits(holds(h)), h.pledge, sum(h), fades(h.kind, now.week)}[what];
    }

    int told(int hat, int thought) {
        return noHat(hat) || out(thought, 0, 11) ? find(Due.BEYOND) : now.hats.get(hat).fresh[thought];
    }

    int pledge(int hat, int v) {
        if (noHat(hat) || out(v, 0, 99)) {
            return find(Due.BEYOND);
        }
        int was = now.hats.get(hat).pledge;
        now.hats.get(hat).pledge = v;
        return was;
    }

    int turn(int hat, int kind) {
        if (noHat(hat) || out(kind, 0, 5)) {
            return find(Due.BEYOND);
        }
        int was = now.hats.get(hat).kind;
        now.hats.get(hat).kind = kind;
        return was;
    }

    int as(int hat, int kind) {
        if (noHat(hat) || out(kind, 0, 5)) {
            return find(Due.BEYOND);
        }
        int k = now.hats.get(hat).kind;
        boolean is = kind == 0 || k == kind || k == 4 && kind == 1 || k == 5 && kind == 2;
        return is ? now.hats.get(hat).pledge : find(Due.KIND);
    }

    int head(int set) {
        if (out(set, 0, 4095)) {
            return find(Due.BEYOND);
        }
        if (now.heads.size() == 6) {
            return find(Due.FULL);
        }
        now.heads.add(new Head(set(set)));
        return now.heads.size() - 1;
    }

    int about(int head, int what) {
        if (noHead(head) || out(what, 0, 2)) {
            return find(Due.BEYOND);
        }
        Head d = now.heads.get(head);
        return new int[] {bits(d.has), d.bald ? 1 : 0, d.pennies}[what];
    }

    int mind(int head, int what, int v) {
        if (noHead(head) || out(what, 0, 2) || out(v, 0, new int[] {4095, 1, 9999}[what])) {
            return find(Due.BEYOND);
        }
        int was = about(head, what);
        Head d = now.heads.get(head);
        if (what == 0) {
            d.has = set(v);
        }
        if (what == 1) {
            d.bald = v == 1;
        }
        if (what == 2) {
            d.pennies = v;
        }
        return was;
    }

    int moths(int v) {
        if (out(v, 0, 1)) {
            return find(Due.BEYOND);
        }
        int were = now.moths;
        now.moths = v;
        return were;
    }

    int takes(int hat, int head) {
        return noHat(hat) || noHead(head) ? find(Due.BEYOND) : bits(takes(now.hats.get(hat), now.heads.get(head).has));
    }

    int keeps(int hat, int head) {
        return noHat(hat) || noHead(head) ? find(Due.BEYOND) : keeps(now.hats.get(hat), now.heads.get(head).has);
    }

    int tries(int hat, int head) {
        if (noHat(hat) || noHead(head)) {
            return find(Due.BEYOND);
        }
        Hat h = now.hats.get(hat);
        Head d = now.heads.get(head);
        TreeSet<Integer> took = takes(h, d.has);
        int keeps = keeps(h, d.has);
        for (int t : d.has) {
            h.fresh[t] = Math.max(h.fresh[t], keeps);
        }
        d.has.addAll(took);
        d.pennies = Math.min(9999, d.pennies + (d.bald ? 1 : 2));
        return bits(d.has);
    }

    int redeem(int hat, int head) {
        if (noHat(hat) || noHead(head)) {
            return find(Due.BEYOND);
        }
        int left = now.heads.get(head).pennies - now.hats.get(hat).pledge;
        if (left < 0) {
            return find(Due.STATE);
        }
        now.heads.get(head).pennies = left;
        now.hats.get(hat).pledge = 0;
        return left;
    }

    int blend(int hat, int other) {
        if (noHat(hat) || noHat(other) || hat == other) {
            return find(Due.BEYOND);
        }
        Hat h = now.hats.get(hat);
        for (int t = 0; t < 12; t++) {
            h.fresh[t] = (h.fresh[t] + now.hats.get(other).fresh[t]) / 2;
        }
        return bits(holds(h));
    }

    int stack(int hat, int other) {
        if (noHat(hat) || noHat(other) || hat == other) {
            return find(Due.BEYOND);
        }
        TreeSet<Integer> one = holds(now.hats.get(hat));
        TreeSet<Integer> two = holds(now.hats.get(other));
        TreeSet<Integer> agree = new TreeSet<>();
        for (int t = 0; t < 12; t++) {
            int next = (t + 1) % 12;
            if (one.contains(t) != two.contains(t) && one.contains(next) == two.contains(next)) {
                agree.add(t);
            }
        }
        return bits(agree);
    }

    int weeks(int n) {
        if (out(n, 1, 60)) {
            return find(Due.BEYOND);
        }
        if (now.week + n > 9999) {
            return find(Due.STATE);
        }
        now.hats.replaceAll(h -> later(h, n));
        now.week += n;
        return now(1);
    }

    int now(int what) {
        if (out(what, 0, 5)) {
            return find(Due.BEYOND);
        }
        TreeSet<Integer> held = new TreeSet<>();
        TreeSet<Integer> had = new TreeSet<>();
        now.hats.forEach(h -> held.addAll(holds(h)));
        now.heads.forEach(d -> had.addAll(d.has));
        int fresh = now.hats.stream().mapToInt(Model::sum).sum();
        int pennies = now.heads.stream().mapToInt(d -> d.pennies).sum();
        return new int[] {now.week, fresh, bits(held), bits(had), now.moths, pennies}[what];
    }

    int on(int hat, int n, int what) {
        if (noHat(hat) || out(n, 0, 60) || out(what, 0, 1)) {
            return find(Due.BEYOND);
        }
        Hat then = later(now.hats.get(hat), n);
        return what == 0 ? bits(holds(then)) : sum(then);
    }

    int gone(int hat, int thought) {
        if (noHat(hat) || out(thought, 0, 11)) {
            return find(Due.BEYOND);
        }
        for (int n = 0; n <= 60; n++) {
            if (later(now.hats.get(hat), n).fresh[thought] == 0) {
                return n;
            }
        }
        return find(Due.NONE);
    }

    int alike(int hat, int other) {
        if (noHat(hat) || noHat(other) || hat == other) {
            return find(Due.BEYOND);
        }
        for (int n = 0; n <= 60; n++) {
            if (holds(later(now.hats.get(hat), n)).equals(holds(later(now.hats.get(other), n)))) {
                return n;
            }
        }
        return find(Due.NONE);
    }

    private static TreeSet<Integer> after(Hat h, TreeSet<Integer> has) {
        TreeSet<Integer> then = new TreeSet<>(has);
        then.addAll(takes(h, has));
        return then;
    }

    int best(int head) {
        if (noHead(head)) {
            return find(Due.BEYOND);
        }
        int best = -1;
        for (int h = now.hats.size() - 1; h >= 0; h--) {
            if (best < 0 || gain(h, head) >= gain(best, head)) {
                best = h;
            }
        }
        return best < 0 ? find(Due.NONE) : best;
    }

    private int gain(int h, int head) {
        return after(now.hats.get(h), now.heads.get(head).has).size();
    }

    /** All rows of just n hats, in their order. */
    private List<List<Integer>> allRows(int n) {
        List<List<Integer>> rows = new ArrayList<>();
        if (n == 0) {
            rows.add(List.of());
            return rows;
        }
        for (List<Integer> row : allRows(n - 1)) {
            for (int h = 0; h < now.hats.size(); h++) {
                if (!row.contains(h)) {
                    List<Integer> longer = new ArrayList<>(row);
                    longer.add(h);
                    rows.add(longer);
                }
            }
        }
        return rows;
    }

    private TreeSet<Integer> afterRow(List<Integer> row, int head) {
        TreeSet<Integer> has = now.heads.get(head).has;
        for (int h : row) {
            has = after(now.hats.get(h), has);
        }
        return has;
    }

    int row(int head, int set) {
        if (noHead(head) || out(set, 0, 4095)) {
            return find(Due.BEYOND);
        }
        for (int n = 0; n <= 3; n++) {
            for (List<Integer> row : allRows(n)) {
                if (afterRow(row, head).containsAll(set(set))) {
                    int named = 0;
                    for (int i = 0; i < 3; i++) {
                        named = 10 * named + (i < n ? row.get(i) + 1 : 0);
                    }
                    return named;
                }
            }
        }
        return find(Due.NONE);
    }

    int rows(int head, int set, int n) {
        if (noHead(head) || out(set, 0, 4095) || out(n, 0, 3)) {
            return find(Due.BEYOND);
        }
        return (int) allRows(n).stream().filter(row -> bits(afterRow(row, head)) == set).count();
    }

    private static Hat asKind(Hat h, int kind) {
        Hat other = h.same();
        other.kind = kind;
        return other;
    }

    int kind(int hat, int head) {
        if (noHat(hat) || noHead(head)) {
            return find(Due.BEYOND);
        }
        int[] many = new int[6];
        for (int k = 0; k < 6; k++) {
            many[k] = after(asKind(now.hats.get(hat), k), now.heads.get(head).has).size();
        }
        return firstOfMost(many);
    }

    int lasting(int hat, int n) {
        if (noHat(hat) || out(n, 0, 60)) {
            return find(Due.BEYOND);
        }
        int[] left = new int[6];
        for (int k = 0; k < 6; k++) {
            left[k] = sum(later(asKind(now.hats.get(hat), k), n));
        }
        return firstOfMost(left);
    }

    private static int firstOfMost(int[] many) {
        int most = Arrays.stream(many).max().getAsInt();
        int first = 0;
        while (many[first] != most) {
            first++;
        }
        return first;
    }

    int worn(int hat) {
        if (noHat(hat)) {
            return find(Due.BEYOND);
        }
        Hat h = now.hats.get(hat);
        List<Integer> wearers = new ArrayList<>();
        for (int d = 0; d < now.heads.size(); d++) {
            TreeSet<Integer> has = now.heads.get(d).has;
            if (has.stream().allMatch(t -> h.fresh[t] > 0 && h.fresh[t] >= keeps(h, has))) {
                wearers.add(d);
            }
        }
        return bits(wearers);
    }

    int before(int hat, int set) {
        if (noHat(hat) || out(set, 0, 4095)) {
            return find(Due.BEYOND);
        }
        for (int has = 0; has < 4096; has++) {
            if (bits(takes(now.hats.get(hat), set(has))) == set) {
                return has;
            }
        }
        return find(Due.NONE);
    }

    int feed(int bytes, int n) {
        if (out(n, 1, 4)) {
            return find(Due.BEYOND);
        }
        if (tape.length() + n > 120) {
            return find(Due.FULL);
        }
        for (int i = n - 1; i >= 0; i--) {
            tape.append((char) (bytes >> 8 * i & 255));
        }
        return tape.length();
    }

    int wipe() {
        int had = tape.length();
        tape.setLength(0);
        return had;
    }

    int shop() {
        State then = now.same();
        List<String> tokens = new ArrayList<>();
        List<Integer> places = new ArrayList<>();
        Matcher m = Pattern.compile("[a-z]+|[0-9]+|[^ ]", Pattern.DOTALL).matcher(tape);
        while (m.find()) {
            tokens.add(m.group());
            places.add(m.start());
        }
        tokens.add("");
        places.add(tape.length());
        int[] at = {0};
        int items = 0;
        boolean good = true;
        do {
            if (items > 0) {
                at[0]++;
            }
            good = item(then, tokens, at);
            items++;
        } while (good && tokens.get(at[0]).equals(";"));
        tape.setLength(0);
        if (!good || !tokens.get(at[0]).isEmpty()) {
            return -1 - places.get(at[0]);
        }
        now = then;
        return items;
    }

    private static boolean item(State s, List<String> tokens, int[] at) {
        String word = tokens.get(at[0]);
        int kind = List.of(NAMES).indexOf(word);
        if (kind >= 0 && s.hats.size() < 8) {
            at[0]++;
            Hat h = new Hat(kind);
            s.hats.add(h);
            int holds = clause(tokens, at, "holds", 4095);
            for (int t : set(Math.max(0, holds))) {
                h.fresh[t] = 9;
            }
            int pledge = holds == -2 ? -2 : clause(tokens, at, "pledge", 99);
            h.pledge = pledge < 0 ? 5 : pledge;
            return pledge != -2;
        }
        if (word.equals("head") && s.heads.size() < 6) {
            at[0]++;
            int has = clause(tokens, at, "has", 4095);
            Head d = new Head(set(Math.max(0, has)));
            s.heads.add(d);
            if (has != -2 && tokens.get(at[0]).equals("bald")) {
                d.bald = true;
                at[0]++;
            }
            return has != -2;
        }
        if (word.equals("moths") || word.equals("none")) {
            s.moths = word.equals("moths") ? 1 : 0;
            at[0]++;
            return true;
        }
        return false;
    }

    /** A word and a number: the number, -1 if the word doesn't stand there, -2 if the number can't. */
    private static int clause(List<String> tokens, int[] at, String word, int most) {
        if (!tokens.get(at[0]).equals(word)) {
            return -1;
        }
        at[0]++;
        String number = tokens.get(at[0]);
        if (!number.matches("0*[0-9]{1,4}") || Integer.parseInt(number) > most) {
            return -2;
        }
        at[0]++;
        return Integer.parseInt(number);
    }

    private boolean missing(int s) {
        return sheets[s] == null;
    }

    private static long cut(long v, int bits) {
        return bits == 8 ? (byte) v : bits == 16 ? (short) v : v;
    }

    int sheet(int s, int b, int n) {
        if (out(s, 0, 3) || !List.of(0, 8, 16, 64).contains(b)) {
            return find(Due.BEYOND);
        }
        if (n < 0) {
            return find(Due.SIZE);
        }
        if (n > 40) {
            return find(Due.BEYOND);
        }
        bits[s] = b;
        sheets[s] = b == 0 ? null : new long[n];
        return b == 0 ? 0 : n;
    }

    long write(int s, int i, long v) {
        if (out(s, 0, 3)) {
            return find(Due.BEYOND);
        }
        if (missing(s)) {
            return find(Due.MISSING);
        }
        if (out(i, 0, sheets[s].length - 1)) {
            return find(Due.BEYOND);
        }
        long was = sheets[s][i];
        sheets[s][i] = cut(v, bits[s]);
        return was;
    }

    int copy(int s, int from, int t, int to, int n) {
        if (out(s, 0, 3) || out(t, 0, 3)) {
            return find(Due.BEYOND);
        }
        if (missing(s) || missing(t)) {
            return find(Due.MISSING);
        }
        if (bits[s] != bits[t]) {
            return find(Due.KIND);
        }
        if (from < 0 || to < 0 || n < 0 || (long) from + n > sheets[s].length || (long) to + n > sheets[t].length) {
            return find(Due.BEYOND);
        }
        long[] were = sheets[s].clone();
        for (int i = 0; i < n; i++) {
            sheets[t][to + i] = were[from + i];
        }
        return n;
    }

    int lays(int s) {
        if (out(s, 0, 3)) {
            return find(Due.BEYOND);
        }
        if (missing(s)) {
            return find(Due.MISSING);
        }
        int came = 0;
        for (int i = 0; i < sheets[s].length; i++) {
            if (!noHat(i) && sheets[s][i] >= 0 && sheets[s][i] < 100) {
                now.hats.get(i).pledge = (int) sheets[s][i];
                came++;
            }
        }
        return came;
    }

    int book(int s, int hat) {
        if (out(s, 0, 3)) {
            return find(Due.BEYOND);
        }
        if (missing(s)) {
            return find(Due.MISSING);
        }
        if (noHat(hat)) {
            return find(Due.BEYOND);
        }
        for (int i = 0; i < sheets[s].length; i++) {
            sheets[s][i] = sum(later(now.hats.get(hat), i));
        }
        return sheets[s].length;
    }

    int read(int s, int hat) {
        if (out(s, 0, 3)) {
            return find(Due.BEYOND);
        }
        if (missing(s)) {
            return find(Due.MISSING);
        }
        if (noHat(hat)) {
            return find(Due.BEYOND);
        }
        int pairs = 0;
        for (int k = 0; k < 6; k++) {
            for (int t = 0; t < 12; t++) {
                Hat h = asKind(now.hats.get(hat), k);
                h.fresh[t] = 9;
                boolean so = true;
                for (int i = 0; so && i < sheets[s].length; i++) {
                    so = sum(later(h, i)) == sheets[s][i];
                }
                pairs += so ? 1 : 0;
            }
        }
        return pairs;
    }

    int image() {
        image = now.same();
        return 1;
    }

    int undo() {
        if (image == null) {
            return find(Due.NONE);
        }
        now = image.same();
        return now.hats.size();
    }

    int tear() {
        int was = image == null ? 0 : 1;
        image = null;
        return was;
    }

    int count(int what) {
        if (out(what, 0, 3)) {
            return find(Due.BEYOND);
        }
        int pledges = now.hats.stream().mapToInt(h -> h.pledge).sum();
        return new int[] {now.hats.size(), tape.length(), now.heads.size(), pledges}[what];
    }

    int status(int which) {
        if (out(which, -1, 6)) {
            return find(Due.BEYOND);
        }
        return which < 0 ? Arrays.stream(found).sum() : found[which];
    }
}
