import java.util.List;

/** Calls that only tell something change nothing, status() included; and a fault of a text changes nothing but the tape. */
public final class UnchangedTest {
    public static void main(String[] args) {
        Twins.Act[] states = {Twins.SOME, Twins.FULL, Twins.LATE};
        for (Twins.Act state : states) {
            ofHatsAndHeads(state);
            ofWeeks(state);
            ofWhatIsBest(state);
            ofTheRest(state);
            acts(state);
        }
        faults();
        bookChangesItsSheet();
        Due.end();
    }

    private static void unchanged(int promise, String call, Twins.Act state, Twins.Act act) {
        HeadHats x = Twins.made(state);
        long before = x.status(-1);
        long got = act.on(x);
        Due.dueTrue("promise " + promise + ": " + call + " answers the finding " + got, got > Due.BEYOND || got < Due.SIZE);
        Due.due(promise, "status(-1) after " + call, x.status(-1), before);
        List<Long> due = Twins.seen(Twins.made(state));
        Due.dueTrue("promise " + promise + ": " + call + " changes something", Twins.seen(x).equals(due));
    }

    private static void ofHatsAndHeads(Twins.Act state) {
        for (int i = 0; i <= 4; i++) {
            int what = i;
            unchanged(4, "of(2, " + what + ")", state, x -> x.of(2, what));
        }
        unchanged(5, "told(2, 11)", state, x -> x.told(2, 11));
        unchanged(8, "as(2, 0)", state, x -> x.as(2, 0));
        for (int i = 0; i <= 2; i++) {
            int what = i;
            unchanged(10, "about(1, " + what + ")", state, x -> x.about(1, what));
        }
        for (int i = 0; i <= 2; i++) {
            int h = i;
            unchanged(13, "takes(" + h + ", 1)", state, x -> x.takes(h, 1));
            unchanged(14, "keeps(" + h + ", 1)", state, x -> x.keeps(h, 1));
        }
    }

    private static void ofWeeks(Twins.Act state) {
        unchanged(18, "stack(0, 1)", state, x -> x.stack(0, 1));
        for (int i = 0; i <= 5; i++) {
            int what = i;
            unchanged(20, "now(" + what + ")", state, x -> x.now(what));
        }
        unchanged(21, "on(1, 0, 0)", state, x -> x.on(1, 0, 0));
        unchanged(21, "on(1, 60, 1)", state, x -> x.on(1, 60, 1));
        for (int i = 0; i < 12; i++) {
            int t = i;
            unchanged(22, "gone(0, " + t + ")", state, x -> x.gone(0, t));
        }
        unchanged(23, "alike(0, 1)", state, x -> x.alike(0, 1));
        unchanged(23, "alike(2, 0)", state, x -> x.alike(2, 0));
    }

    private static void ofWhatIsBest(Twins.Act state) {
        unchanged(24, "best(1)", state, x -> x.best(1));
        unchanged(25, "row(1, 0)", state, x -> x.row(1, 0));
        unchanged(25, "row(1, 3)", state, x -> x.row(1, x.takes(0, 1) | x.takes(1, 1) | x.takes(2, 1)));
        for (int i = 0; i <= 3; i++) {
            int n = i;
            unchanged(26, "rows(1, 0, " + n + ")", state, x -> x.rows(1, 0, n));
        }
        for (int i = 0; i <= 2; i++) {
            int h = i;
            unchanged(27, "kind(" + h + ", 1)", state, x -> x.kind(h, 1));
            unchanged(28, "lasting(" + h + ", 60)", state, x -> x.lasting(h, 60));
            unchanged(29, "worn(" + h + ")", state, x -> x.worn(h));
            unchanged(30, "before(" + h + ", ..)", state, x -> x.before(h, x.takes(h, 1)));
        }
    }

    private static void ofTheRest(Twins.Act state) {
        for (int i = 0; i <= 2; i++) {
            int s = i;
            unchanged(39, "read(" + s + ", 1)", state, x -> x.read(s, 1));
        }
        for (int i = 0; i <= 3; i++) {
            int what = i;
            unchanged(43, "count(" + what + ")", state, x -> x.count(what));
        }
        for (int i = -1; i <= 6; i++) {
            int which = i;
            unchanged(44, "status(" + which + ")", state, x -> x.status(which));
        }
    }

    /** Acts that come to what there was: one after the other, or of nothing. */
    private static void acts(Twins.Act state) {
        unchanged(3, "fresh to what it is", state, x -> x.fresh(0, 4, x.told(0, 4)));
        unchanged(6, "pledge to what it is", state, x -> x.pledge(0, x.of(0, 2)));
        unchanged(7, "turn and back", state, x -> x.turn(0, x.turn(0, 4)));
        unchanged(12, "moths and back", state, x -> x.moths(x.moths(0)));
        unchanged(11, "mind and back", state, x -> x.mind(1, 0, x.mind(1, 0, 4095)));
        unchanged(36, "copy of none", state, x -> x.copy(1, 0, 1, 4, 0));
        unchanged(36, "copy onto itself", state, x -> x.copy(1, 0, 1, 0, 4));
        unchanged(34, "sheet that is MISSING becomes MISSING", state, x -> x.sheet(3, 0, 40));
    }

    private static void faults() {
        String[] texts = {"", " ", "cat", "hat;", "brim holds 4095 pledge 98;head has 7 bald;none;!", "head;head has 4096", "none;moths;none;hat 5"};
        Twins.Act[] states = {Twins.SOME, Twins.LATE, Twins.FULL};
        for (Twins.Act state : states) {
            for (String text : texts) {
                HeadHats x = Twins.made(state);
                HeadHats twin = Twins.made(state);
                twin.wipe();
                x.wipe();
                Due.dueTrue("promise 33: a fault of \"" + text + "\"", Due.read(x, text) < 0);
                Due.due(33, "status(-1)", x.status(-1), 0);
                Due.dueTrue("promise 33: the fault of \"" + text + "\" changes something", Twins.seen(x).equals(Twins.seen(twin)));
            }
        }
    }

    private static void bookChangesItsSheet() {
        HeadHats x = Twins.made(Twins.SOME);
        HeadHats twin = Twins.made(Twins.SOME);
        Due.due(38, "book(1, 0)", x.book(1, 0), 4);
        for (int n = 0; n < 4; n++) {
            twin.write(1, n, twin.on(0, n, 1));
        }
        Due.dueTrue("promise 38: book changes more than its sheet", Twins.seen(x).equals(Twins.seen(twin)));
    }
}
