import java.util.HashMap;
import java.util.List;
import java.util.Map;

/**
 * "Each act tells its findings in the order in which they are asked; one that answers a finding changes nothing but status()":
 * every finding of every call, and every pair of findings whose order can be seen.
 */
public final class RefusalsTest {
    private static final int MIN = Integer.MIN_VALUE;
    private static final int MAX = Integer.MAX_VALUE;
    private static final Map<Twins.Act, List<Long>> UNTOUCHED = new HashMap<>();

    public static void main(String[] args) {
        hatsAndHeads();
        triedOn();
        best();
        text();
        sheets();
        images();
        Due.end();
    }

    private static List<Long> untouched(Twins.Act state) {
        return UNTOUCHED.computeIfAbsent(state, s -> Twins.seen(Twins.made(s)));
    }

    private static void refused(int promise, String call, Twins.Act state, long finding, Twins.Act act) {
        HeadHats x = Twins.made(state);
        long[] due = Twins.statuses(x);
        Due.due(promise, call, act.on(x), finding);
        due[0]++;
        due[(int) (Due.BEYOND - finding) + 1]++;
        long[] then = Twins.statuses(x);
        for (int i = 0; i < 8; i++) {
            Due.due(promise, "status(" + (i - 1) + ") after " + call, then[i], due[i]);
        }
        Due.dueTrue("promise " + promise + ": " + call + " answers a finding, but changes something", Twins.seen(x).equals(untouched(state)));
    }

    /** BEYOND of a number of which those from 0 to below many can be. */
    private static void beyond(int promise, String call, Twins.Act state, int many, OfNumber act) {
        int[] wrong = {-1, many, MIN, MAX};
        for (int v : wrong) {
            refused(promise, call.replace("?", "" + v), state, Due.BEYOND, x -> act.on(x, v));
        }
    }

    interface OfNumber {
        long on(HeadHats x, int v);
    }

    private static void hatsAndHeads() {
        beyond(2, "hat(?)", Twins.SOME, 6, (x, v) -> x.hat(v));
        refused(2, "hat(0)", Twins.FULL, Due.FULL, x -> x.hat(0));
        beyond(2, "hat(?), a 9th", Twins.FULL, 6, (x, v) -> x.hat(v));
        beyond(3, "fresh(?, 0, 5)", Twins.SOME, 3, (x, v) -> x.fresh(v, 0, 5));
        beyond(3, "fresh(?, 0, 5), of eight", Twins.FULL, 8, (x, v) -> x.fresh(v, 0, 5));
        beyond(3, "fresh(?, 0, 5), of none", Twins.EMPTY, 0, (x, v) -> x.fresh(v, 0, 5));
        beyond(3, "fresh(0, ?, 5)", Twins.SOME, 12, (x, v) -> x.fresh(0, v, 5));
        beyond(3, "fresh(0, 0, ?)", Twins.SOME, 10, (x, v) -> x.fresh(0, 0, v));
        beyond(4, "of(?, 0)", Twins.SOME, 3, (x, v) -> x.of(v, 0));
        beyond(4, "of(0, ?)", Twins.SOME, 5, (x, v) -> x.of(0, v));
        beyond(5, "told(?, 0)", Twins.SOME, 3, (x, v) -> x.told(v, 0));
        beyond(5, "told(0, ?)", Twins.SOME, 12, (x, v) -> x.told(0, v));
        beyond(6, "pledge(?, 1)", Twins.SOME, 3, (x, v) -> x.pledge(v, 1));
        beyond(6, "pledge(0, ?)", Twins.SOME, 100, (x, v) -> x.pledge(0, v));
        beyond(7, "turn(?, 1)", Twins.SOME, 3, (x, v) -> x.turn(v, 1));
        beyond(7, "turn(0, ?)", Twins.SOME, 6, (x, v) -> x.turn(0, v));
        beyond(8, "as(?, 0)", Twins.SOME, 3, (x, v) -> x.as(v, 0));
        beyond(8, "as(?, 5)", Twins.SOME, 3, (x, v) -> x.as(v, 5));
        beyond(8, "as(0, ?)", Twins.SOME, 6, (x, v) -> x.as(0, v));
        refused(8, "as(0, 5)", Twins.SOME, Due.KIND, x -> x.as(0, 5));
        beyond(9, "head(?)", Twins.SOME, 4096, (x, v) -> x.head(v));
        refused(9, "head(0)", Twins.FULL, Due.FULL, x -> x.head(0));
        beyond(9, "head(?), a 7th", Twins.FULL, 4096, (x, v) -> x.head(v));
        beyond(10, "about(?, 0)", Twins.SOME, 2, (x, v) -> x.about(v, 0));
        beyond(10, "about(0, ?)", Twins.SOME, 3, (x, v) -> x.about(0, v));
        beyond(11, "mind(?, 0, 0)", Twins.SOME, 2, (x, v) -> x.mind(v, 0, 0));
        beyond(11, "mind(?, 1, 0), of six", Twins.FULL, 6, (x, v) -> x.mind(v, 1, 0));
        beyond(11, "mind(?, 2, 1), of none", Twins.EMPTY, 0, (x, v) -> x.mind(v, 2, 1));
        beyond(11, "mind(0, ?, 0)", Twins.SOME, 3, (x, v) -> x.mind(0, v, 0));
        beyond(11, "mind(0, 0, ?)", Twins.SOME, 4096, (x, v) -> x.mind(0, 0, v));
        beyond(11, "mind(0, 1, ?)", Twins.SOME, 2, (x, v) -> x.mind(0, 1, v));
        beyond(11, "mind(0, 2, ?)", Twins.SOME, 10000, (x, v) -> x.mind(0, 2, v));
        beyond(12, "moths(?)", Twins.SOME, 2, (x, v) -> x.moths(v));
    }

    private static void triedOn() {
        beyond(13, "takes(?, 0)", Twins.SOME, 3, (x, v) -> x.takes(v, 0));
        beyond(13, "takes(0, ?)", Twins.SOME, 2, (x, v) -> x.takes(0, v));
        beyond(14, "keeps(?, 0)", Twins.SOME, 3, (x, v) -> x.keeps(v, 0));
        beyond(14, "keeps(0, ?)", Twins.SOME, 2, (x, v) -> x.keeps(0, v));
        beyond(15, "tries(?, 0)", Twins.SOME, 3, (x, v) -> x.tries(v, 0));
        beyond(15, "tries(?, 0), of eight", Twins.FULL, 8, (x, v) -> x.tries(v, 0));
        beyond(15, "tries(0, ?)", Twins.SOME, 2, (x, v) -> x.tries(0, v));
        beyond(15, "tries(0, ?), of six", Twins.FULL, 6, (x, v) -> x.tries(0, v));
        beyond(16, "redeem(?, 0)", Twins.SOME, 3, (x, v) -> x.redeem(v, 0));
        beyond(16, "redeem(0, ?)", Twins.SOME, 2, (x, v) -> x.redeem(0, v));
        refused(16, "redeem(0, 0)", Twins.SOME, Due.STATE, x -> x.redeem(0, 0));
        beyond(17, "blend(?, 0)", Twins.SOME, 3, (x, v) -> x.blend(v, 0));
        beyond(17, "blend(0, ?)", Twins.SOME, 3, (x, v) -> x.blend(0, v));
        refused(17, "blend(1, 1)", Twins.SOME, Due.BEYOND, x -> x.blend(1, 1));
        beyond(18, "stack(?, 0)", Twins.SOME, 3, (x, v) -> x.stack(v, 0));
        beyond(18, "stack(0, ?)", Twins.SOME, 3, (x, v) -> x.stack(0, v));
        refused(18, "stack(1, 1)", Twins.SOME, Due.BEYOND, x -> x.stack(1, 1));
        beyond(19, "weeks(?)", Twins.SOME, 61, (x, v) -> x.weeks(v));
        refused(19, "weeks(0)", Twins.SOME, Due.BEYOND, x -> x.weeks(0));
        beyond(19, "weeks(?) in WEEK 9999", Twins.LATE, 61, (x, v) -> x.weeks(v));
        refused(19, "weeks(0) in WEEK 9999", Twins.LATE, Due.BEYOND, x -> x.weeks(0));
        refused(19, "weeks(1) in WEEK 9999", Twins.LATE, Due.STATE, x -> x.weeks(1));
        refused(19, "weeks(60) in WEEK 9999", Twins.LATE, Due.STATE, x -> x.weeks(60));
        beyond(20, "now(?)", Twins.SOME, 6, (x, v) -> x.now(v));
        beyond(21, "on(?, 0, 0)", Twins.SOME, 3, (x, v) -> x.on(v, 0, 0));
        beyond(21, "on(0, ?, 0)", Twins.SOME, 61, (x, v) -> x.on(0, v, 0));
        beyond(21, "on(0, 0, ?)", Twins.SOME, 2, (x, v) -> x.on(0, 0, v));
        beyond(22, "gone(?, 0)", Twins.SOME, 3, (x, v) -> x.gone(v, 0));
        beyond(22, "gone(0, ?)", Twins.SOME, 12, (x, v) -> x.gone(0, v));
        beyond(23, "alike(?, 0)", Twins.SOME, 3, (x, v) -> x.alike(v, 0));
        beyond(23, "alike(0, ?)", Twins.SOME, 3, (x, v) -> x.alike(0, v));
        refused(23, "alike(1, 1)", Twins.SOME, Due.BEYOND, x -> x.alike(1, 1));
    }

    private static void best() {
        beyond(24, "best(?)", Twins.SOME, 2, (x, v) -> x.best(v));
        beyond(24, "best(?), of none, no HAT", Twins.EMPTY, 0, (x, v) -> x.best(v));
        refused(24, "best(0), no HAT", x -> x.head(5), Due.NONE, x -> x.best(0));
        beyond(25, "row(?, 0)", Twins.SOME, 2, (x, v) -> x.row(v, 0));
        beyond(25, "row(?, 4095)", Twins.SOME, 2, (x, v) -> x.row(v, 4095));
        beyond(25, "row(0, ?)", Twins.SOME, 4096, (x, v) -> x.row(0, v));
        refused(25, "row(0, 4095)", Twins.SOME, Due.NONE, x -> x.row(0, 4095));
        beyond(26, "rows(?, 0, 0)", Twins.SOME, 2, (x, v) -> x.rows(v, 0, 0));
        beyond(26, "rows(0, ?, 0)", Twins.SOME, 4096, (x, v) -> x.rows(0, v, 0));
        beyond(26, "rows(0, 0, ?)", Twins.SOME, 4, (x, v) -> x.rows(0, 0, v));
        beyond(27, "kind(?, 0)", Twins.SOME, 3, (x, v) -> x.kind(v, 0));
        beyond(27, "kind(0, ?)", Twins.SOME, 2, (x, v) -> x.kind(0, v));
        beyond(28, "lasting(?, 0)", Twins.SOME, 3, (x, v) -> x.lasting(v, 0));
        beyond(28, "lasting(0, ?)", Twins.SOME, 61, (x, v) -> x.lasting(0, v));
        beyond(29, "worn(?)", Twins.SOME, 3, (x, v) -> x.worn(v));
        beyond(30, "before(?, 0)", Twins.SOME, 3, (x, v) -> x.before(v, 0));
        beyond(30, "before(?, 4095)", Twins.SOME, 3, (x, v) -> x.before(v, 4095));
        beyond(30, "before(0, ?)", Twins.SOME, 4096, (x, v) -> x.before(0, v));
        refused(30, "before(0, 4095)", Twins.SOME, Due.NONE, x -> x.before(0, 4095));
    }

    private static void text() {
        beyond(31, "feed(104, ?)", Twins.SOME, 5, (x, v) -> x.feed(104, v));
        refused(31, "feed(104, 0)", Twins.SOME, Due.BEYOND, x -> x.feed(104, 0));
        beyond(31, "feed(104, ?), a full tape", Twins.FULL, 5, (x, v) -> x.feed(104, v));
        refused(31, "feed(104, 0), a full tape", Twins.FULL, Due.BEYOND, x -> x.feed(104, 0));
        refused(31, "feed(104, 3), a full tape", Twins.FULL, Due.FULL, x -> x.feed(104, 3));
        refused(31, "feed(104, 4), a full tape", Twins.FULL, Due.FULL, x -> x.feed(104, 4));
    }

    private static void sheets() {
        beyond(34, "sheet(?, 8, 1)", Twins.SOME, 4, (x, v) -> x.sheet(v, 8, 1));
        beyond(34, "sheet(?, 8, -1)", Twins.SOME, 4, (x, v) -> x.sheet(v, 8, -1));
        beyond(34, "sheet(0, ?, 1)", Twins.SOME, 32, (x, v) -> x.sheet(0, v, 1));
        beyond(34, "sheet(0, ?, -1)", Twins.SOME, 1, (x, v) -> x.sheet(0, v, -1));
        int[] bits = {0, 8, 16, 64};
        for (int b : bits) {
            refused(34, "sheet(0, " + b + ", -1)", Twins.SOME, Due.SIZE, x -> x.sheet(0, b, -1));
            refused(34, "sheet(0, " + b + ", MIN)", Twins.SOME, Due.SIZE, x -> x.sheet(0, b, MIN));
            refused(34, "sheet(0, " + b + ", 41)", Twins.SOME, Due.BEYOND, x -> x.sheet(0, b, 41));
            refused(34, "sheet(0, " + b + ", MAX)", Twins.SOME, Due.BEYOND, x -> x.sheet(0, b, MAX));
        }
        beyond(35, "write(?, 0, 1)", Twins.SOME, 4, (x, v) -> x.write(v, 0, 1));
        refused(35, "write(3, 0, 1)", Twins.SOME, Due.MISSING, x -> x.write(3, 0, 1));
        refused(35, "write(3, -1, 1)", Twins.SOME, Due.MISSING, x -> x.write(3, -1, 1));
        beyond(35, "write(0, ?, 1)", Twins.SOME, 3, (x, v) -> x.write(0, v, 1));
        beyond(36, "copy(?, 0, 0, 0, 1)", Twins.SOME, 4, (x, v) -> x.copy(v, 0, 0, 0, 1));
        beyond(36, "copy(0, 0, ?, 0, 1)", Twins.SOME, 4, (x, v) -> x.copy(0, 0, v, 0, 1));
        beyond(36, "copy(?, 0, 3, 0, 1)", Twins.SOME, 4, (x, v) -> x.copy(v, 0, 3, 0, 1));
        beyond(36, "copy(3, 0, ?, 0, 1)", Twins.SOME, 4, (x, v) -> x.copy(3, 0, v, 0, 1));
        refused(36, "copy(3, 0, 0, 0, 1)", Twins.SOME, Due.MISSING, x -> x.copy(3, 0, 0, 0, 1));
        refused(36, "copy(0, 0, 3, 0, -1)", Twins.SOME, Due.MISSING, x -> x.copy(0, 0, 3, 0, -1));
        refused(36, "copy(0, 0, 1, 0, 1)", Twins.SOME, Due.KIND, x -> x.copy(0, 0, 1, 0, 1));
        refused(36, "copy(0, 0, 2, 0, -1)", Twins.SOME, Due.KIND, x -> x.copy(0, 0, 2, 0, -1));
        beyond(36, "copy(0, ?, 0, 0, 1)", Twins.SOME, 3, (x, v) -> x.copy(0, v, 0, 0, 1));
        beyond(36, "copy(0, 0, 0, ?, 1)", Twins.SOME, 3, (x, v) -> x.copy(0, 0, 0, v, 1));
        beyond(36, "copy(1, 0, 1, 0, ?)", Twins.SOME, 5, (x, v) -> x.copy(1, 0, 1, 0, v));
        refused(36, "copy(1, 0, 1, 1, 4), some would fit", Twins.SOME, Due.BEYOND, x -> x.copy(1, 0, 1, 1, 4));
        refused(36, "copy(1, 2, 1, 0, 3), some would fit", Twins.SOME, Due.BEYOND, x -> x.copy(1, 2, 1, 0, 3));
        beyond(37, "lays(?)", Twins.SOME, 4, (x, v) -> x.lays(v));
        refused(37, "lays(3)", Twins.SOME, Due.MISSING, x -> x.lays(3));
        beyond(38, "book(?, 0)", Twins.SOME, 4, (x, v) -> x.book(v, 0));
        refused(38, "book(3, 0)", Twins.SOME, Due.MISSING, x -> x.book(3, 0));
        refused(38, "book(3, 3)", Twins.SOME, Due.MISSING, x -> x.book(3, 3));
        beyond(38, "book(0, ?)", Twins.SOME, 3, (x, v) -> x.book(0, v));
        beyond(39, "read(?, 0)", Twins.SOME, 4, (x, v) -> x.read(v, 0));
        refused(39, "read(3, 0)", Twins.SOME, Due.MISSING, x -> x.read(3, 0));
        refused(39, "read(3, 3)", Twins.SOME, Due.MISSING, x -> x.read(3, 3));
        beyond(39, "read(0, ?)", Twins.SOME, 3, (x, v) -> x.read(0, v));
    }

    private static void images() {
        refused(41, "undo()", Twins.EMPTY, Due.NONE, x -> x.undo());
        refused(41, "undo(), of a shop", x -> Due.read(x, "hat holds 7;head has 9;moths"), Due.NONE, x -> x.undo());
        beyond(43, "count(?)", Twins.SOME, 4, (x, v) -> x.count(v));
        beyond(44, "status(?)", Twins.SOME, 7, (x, v) -> x.status(v == -1 ? -2 : v));
    }
}
