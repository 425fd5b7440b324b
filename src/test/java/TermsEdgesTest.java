/** The terms on which all promises rest: each sentence that names a boundary case has a test of its own. */
public final class TermsEdgesTest {
    private static final int LAST = 9999;

    public static void main(String[] args) {
        findingsByNumber();
        findingsInOrder();
        quotientsAreCut();
        setsByBits();
        weekAtMost9999();
        hatsAtMostEight();
        headsAtMostSix();
        kindsUnderKinds();
        fadesOfHatAndFeather();
        fadesOfFelt();
        fadesOfStraw();
        fadesOfMitre();
        fadesOfBrim();
        goneAndAlikeAreNeverNone();
        sheetsAtMost40();
        Due.end();
    }

    private static HeadHats atWeek(int week) {
        HeadHats x = Due.shopOf("hat;felt;straw;feather;mitre;brim");
        for (int at = 0; at < week; at += 60) {
            x.weeks(Math.min(60, week - at));
        }
        Due.due(19, "now(0), on the way to WEEK " + week, x.now(0), week);
        return x;
    }

    private static void findingsByNumber() {
        Edge e = Edge.term(44, "FINDINGS are answers below -1000000000: -1000000001 BEYOND, -1000000002 FULL, ..");
        HeadHats x = Due.shopOf("hat;head;head;head;head;head;head");
        e.due("BEYOND", x.hat(6), -1000000001).due("FULL", x.head(0), -1000000002).due("KIND", x.as(0, 1), -1000000003);
        e.due("NONE", x.undo(), -1000000004).due("STATE", x.redeem(0, 0), -1000000005).due("MISSING", x.lays(0), -1000000006);
        e.due("SIZE", x.sheet(0, 8, -1), -1000000007);
    }

    private static void findingsInOrder() {
        Edge e = Edge.term(44, "Each act tells its findings in the order in which they are asked");
        HeadHats x = Due.shopOf("hat;hat;hat;hat;hat;hat;hat;hat;head;head;head;head;head;head");
        Due.feed(x, " ".repeat(120));
        e.due("hat: BEYOND, FULL", x.hat(6), Due.BEYOND).due("hat: FULL", x.hat(5), Due.FULL);
        e.due("head: BEYOND, FULL", x.head(4096), Due.BEYOND).due("head: FULL", x.head(4095), Due.FULL);
        e.due("feed: BEYOND, FULL", x.feed(0, 5), Due.BEYOND).due("feed: FULL", x.feed(0, 4), Due.FULL);
        e.due("as: BEYOND, KIND", x.as(8, 5), Due.BEYOND).due("as: KIND", x.as(7, 5), Due.KIND);
        e.due("redeem: BEYOND, STATE", x.redeem(8, 0), Due.BEYOND).due("redeem: STATE", x.redeem(7, 0), Due.STATE);
        e.due("row: BEYOND, NONE", x.row(6, 1), Due.BEYOND).due("row: NONE", x.row(5, 1), Due.NONE);
        e.due("before: BEYOND, NONE", x.before(8, 1), Due.BEYOND).due("before: NONE", x.before(7, 1), Due.NONE);
        e.due("sheet: BEYOND, SIZE", x.sheet(4, 8, -1), Due.BEYOND).due("sheet: SIZE", x.sheet(3, 8, -1), Due.SIZE);
        e.due("write: BEYOND, MISSING", x.write(4, -1, 0), Due.BEYOND).due("write: MISSING, BEYOND", x.write(3, -1, 0), Due.MISSING);
        e.due("copy: BEYOND, MISSING", x.copy(4, 0, 3, 0, 0), Due.BEYOND).due("copy: MISSING, BEYOND", x.copy(3, -1, 3, 0, 0), Due.MISSING);
        x.sheet(0, 8, 1);
        x.sheet(1, 16, 1);
        e.due("copy: MISSING, KIND", x.copy(0, 0, 3, 0, 2), Due.MISSING).due("copy: KIND, BEYOND", x.copy(0, 0, 1, 0, 2), Due.KIND);
        e.due("lays: BEYOND, MISSING", x.lays(4), Due.BEYOND).due("lays: MISSING", x.lays(3), Due.MISSING);
        e.due("book: BEYOND, MISSING", x.book(4, 0), Due.BEYOND).due("book: MISSING, BEYOND", x.book(3, 8), Due.MISSING);
        e.due("read: BEYOND, MISSING", x.read(4, 0), Due.BEYOND).due("read: MISSING, BEYOND", x.read(3, 8), Due.MISSING);
        HeadHats y = Due.shopOf("head");
        e.due("best: BEYOND, NONE", y.best(1), Due.BEYOND).due("best: NONE", y.best(0), Due.NONE);
        HeadHats z = atWeek(LAST);
        e.due("weeks: BEYOND, STATE", z.weeks(61), Due.BEYOND).due("weeks: STATE", z.weeks(60), Due.STATE);
    }

    private static void quotientsAreCut() {
        Edge e = Edge.term(17, "Quotients are cut.");
        HeadHats x = Due.shopOf("straw holds 1;brim;head");
        e.due("keeps(0, 0), the half of 9", x.keeps(0, 0), 4).due("keeps(1, 0), the half of 9, and 1", x.keeps(1, 0), 5);
        x.blend(0, 1);
        e.due("told(0, 0), the mean of 9 and 0", x.told(0, 0), 4);
    }

    private static void setsByBits() {
        Edge e = Edge.term(13, "Sets are told by bits.");
        HeadHats x = Due.shopOf("hat;head");
        for (int t = 0; t < 12; t++) {
            x.fresh(0, t, 9);
            e.due("of(0, 1), " + t + " alone", x.of(0, 1), 1 << t).due("takes(0, 0)", x.takes(0, 0), 1 << t).due("now(2)", x.now(2), 1 << t);
            x.mind(0, 0, 1 << t);
            e.due("now(3)", x.now(3), 1 << t);
            x.mind(0, 0, 0);
            x.fresh(0, t, 0);
        }
    }

    private static void weekAtMost9999() {
        Edge e = Edge.term(19, "WEEK: 0 at first (9999 at most).");
        HeadHats x = atWeek(LAST - 1);
        e.due("weeks(2)", x.weeks(2), Due.STATE).due("weeks(1)", x.weeks(1), 0).due("now(0)", x.now(0), LAST);
        e.due("weeks(1)", x.weeks(1), Due.STATE).due("now(0)", x.now(0), LAST);
    }

    private static void hatsAtMostEight() {
        Edge e = Edge.term(2, "HATS 0, 1, .. (at most 8)");
        HeadHats x = Due.shopOf("hat;hat;hat;hat;hat;hat;hat");
        e.due("hat(0), the 8th after seven of a text", x.hat(0), 7).due("hat(0)", x.hat(0), Due.FULL).due("shop() of a 9th", Due.read(x, "hat"), -1);
        HeadHats y = new HeadHats();
        for (int h = 0; h < 7; h++) {
            y.hat(0);
        }
        e.due("shop() of an 8th", Due.read(y, "brim"), 1).due("hat(0)", y.hat(0), Due.FULL).due("count(0)", y.count(0), 8);
        e.due("of(7, 0), the last", y.of(7, 0), 5).beyond("of(8, 0)", y.of(8, 0));
        HeadHats z = Due.shopOf("hat");
        z.image();
        for (int h = 1; h < 8; h++) {
            z.hat(0);
        }
        z.undo();
        e.due("hat(0), room again after undo()", z.hat(0), 1).beyond("of(2, 0), gone", z.of(2, 0));
    }

    private static void headsAtMostSix() {
        Edge e = Edge.term(9, "HEADS 0, 1, .. (at most 6)");
        HeadHats x = Due.shopOf("head;head;head;head;head");
        e.due("head(0), the 6th after five of a text", x.head(0), 5).due("head(0)", x.head(0), Due.FULL).due("shop() of a 7th", Due.read(x, "head"), -1);
        HeadHats y = new HeadHats();
        for (int d = 0; d < 5; d++) {
            y.head(0);
        }
        e.due("shop() of a 6th", Due.read(y, "head bald"), 1).due("head(0)", y.head(0), Due.FULL).due("count(2)", y.count(2), 6);
        e.due("about(5, 1), the last", y.about(5, 1), 1).beyond("about(6, 1)", y.about(6, 1));
        HeadHats z = Due.shopOf("head");
        z.image();
        for (int d = 1; d < 6; d++) {
            z.head(0);
        }
        z.undo();
        e.due("head(0), room again after undo()", z.head(0), 1).beyond("about(2, 0), gone", z.about(2, 0));
    }

    private static void kindsUnderKinds() {
        Edge e = Edge.term(8, "4 MITRE under FELT, 5 BRIM under STRAW");
        HeadHats x = Due.shopOf("mitre;brim");
        e.due("as(0, 1)", x.as(0, 1), 5).due("as(0, 0)", x.as(0, 0), 5).due("as(0, 2)", x.as(0, 2), Due.KIND).due("as(0, 3)", x.as(0, 3), Due.KIND);
        e.due("as(1, 2)", x.as(1, 2), 5).due("as(1, 0)", x.as(1, 0), 5).due("as(1, 1)", x.as(1, 1), Due.KIND).due("as(1, 3)", x.as(1, 3), Due.KIND);
        x.turn(0, 1);
        x.turn(1, 2);
        e.due("as(0, 4), one above it", x.as(0, 4), Due.KIND).due("as(1, 5), one above it", x.as(1, 5), Due.KIND);
    }

    /** What a hat of a kind FADES in a week, told and done. */
    private static void fades(Edge e, int kind, int week, int due) {
        HeadHats x = atWeek(week);
        e.due("of(" + kind + ", 4) in WEEK " + week, x.of(kind, 4), due);
        x.fresh(kind, 11, 9);
        e.due("on(" + kind + ", 1, 1) in WEEK " + week, x.on(kind, 1, 1), 9 - due);
        if (week < LAST) {
            x.weeks(1);
            e.due("told(" + kind + ", 11) after WEEK " + week, x.told(kind, 11), 9 - due);
        }
    }

    private static void fadesOfHatAndFeather() {
        Edge hat = Edge.term(4, "HAT: 1.");
        Edge feather = Edge.term(4, "FEATHER: as HAT.");
        int[] weeks = {0, 1, 2, 3, LAST - 1, LAST};
        for (int w : weeks) {
            fades(hat, 0, w, 1);
            fades(feather, 3, w, 1);
        }
    }

    private static void fadesOfFelt() {
        Edge e = Edge.term(4, "FELT: the rest of w by 2.");
        int[] weeks = {0, 1, 2, 3, 59, 60, 61, LAST - 1, LAST};
        int[] due = {0, 1, 0, 1, 1, 0, 1, 0, 1};
        for (int i = 0; i < weeks.length; i++) {
            fades(e, 1, weeks[i], due[i]);
        }
    }

    private static void fadesOfStraw() {
        Edge e = Edge.term(4, "STRAW: twice as HAT.");
        int[] weeks = {0, 1, 2, 3, LAST - 1, LAST};
        for (int w : weeks) {
            fades(e, 2, w, 2);
        }
    }

    private static void fadesOfMitre() {
        Edge e = Edge.term(4, "MITRE: as FELT, and 1, if the rest of w by 3 is 0.");
        int[] weeks = {0, 1, 2, 3, 4, 5, 6, 7, 8, 9, LAST - 3, LAST - 2, LAST - 1, LAST};
        int[] due = {1, 1, 0, 2, 0, 1, 1, 1, 0, 2, 1, 1, 0, 2};
        for (int i = 0; i < weeks.length; i++) {
            fades(e, 4, weeks[i], due[i]);
        }
    }

    private static void fadesOfBrim() {
        Edge e = Edge.term(4, "BRIM: as STRAW, less 1.");
        int[] weeks = {0, 1, 2, 3, LAST - 1, LAST};
        for (int w : weeks) {
            fades(e, 5, w, 1);
        }
    }

    /** No thought stays longer than 18 weeks (a felt's), so NONE of these promises can't come; it mustn't come too early either. */
    private static void goneAndAlikeAreNeverNone() {
        Edge gone = Edge.promise(22, "NONE.");
        Edge alike = Edge.promise(23, "NONE.");
        int[] weeks = {0, 1, 2, 3, 4, 5, LAST};
        for (int w : weeks) {
            HeadHats x = atWeek(w);
            x.hat(0);
            for (int h = 0; h < 6; h++) {
                x.fresh(h, 11, 9);
                int goes = x.gone(h, 11);
                gone.due("on(" + h + ", " + goes + ", 0) from WEEK " + w, x.on(h, goes, 0), 0);
                gone.due("on(" + h + ", " + (goes - 1) + ", 0), still there", x.on(h, goes - 1, 0), 2048);
                alike.due("alike(" + h + ", 6), with an empty one", x.alike(h, 6), goes);
            }
            gone.due("gone(1, 11), the longest", x.gone(1, 11), w % 2 == 0 ? 18 : 17).due("status(3)", x.status(3), 0);
        }
    }

    private static void sheetsAtMost40() {
        Edge e = Edge.term(34, "SHEETS 0 to 3 are rows of at most 40 numbers of 8, 16 or 64 bits");
        HeadHats x = new HeadHats();
        int[] bits = {8, 16, 64};
        for (int b : bits) {
            for (int s = 0; s <= 3; s++) {
                e.due("sheet(" + s + ", " + b + ", 40)", x.sheet(s, b, 40), 40).due("write(" + s + ", 39, 1)", x.write(s, 39, 1), 0);
                e.beyond("write(" + s + ", 40, 1)", x.write(s, 40, 1)).beyond("sheet(" + s + ", " + b + ", 41)", x.sheet(s, b, 41));
            }
        }
        e.beyond("sheet(4, 8, 1)", x.sheet(4, 8, 1)).beyond("sheet(-1, 8, 1)", x.sheet(-1, 8, 1));
    }
}
