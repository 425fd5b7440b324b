/** Promises 1 to 12, and the terms of hats and heads: each sentence that names a boundary case has a test of its own. */
public final class HatsHeadsEdgesTest {
    private static final int MIN = Integer.MIN_VALUE;
    private static final int MAX = Integer.MAX_VALUE;

    public static void main(String[] args) {
        nothingAtFirst();
        nothingIsShared();
        weekAndMothsAtFirst();
        hatNumbers();
        hatKindBeyond();
        hatsAtMostEight();
        hatAtFirst();
        hatAnewAfterUndo();
        freshFromNoneToNine();
        freshNoughtIsNotHeld();
        freshBeyond();
        ofWhat();
        ofSums();
        ofFadesNext();
        ofBeyond();
        toldOfEach();
        toldBeyond();
        pledgeOfAll();
        pledgeBeyond();
        turnToEach();
        turnBeyond();
        asBeyond();
        asOtherKind();
        headNumbers();
        headSetBeyond();
        headsAtMostSix();
        headAtFirst();
        aboutWhat();
        aboutBeyond();
        mindHas();
        mindBald();
        mindPennies();
        mindBeyond();
        mothsBoth();
        mothsBeyond();
        Due.end();
    }

    private static HeadHats full() {
        HeadHats x = Due.shopOf("hat;felt;straw;feather;mitre;brim;hat;hat;head;head;head;head;head;head");
        Due.due(1, "a full shop: count(0)", x.count(0), 8);
        Due.due(1, "a full shop: count(2)", x.count(2), 6);
        return x;
    }

    private static void nothingAtFirst() {
        Edge e = Edge.promise(1, "No HATS, no HEADS; THE TAPE is empty, no image is kept.");
        HeadHats x = new HeadHats();
        e.due("count(0)", x.count(0), 0).beyond("of(0, 0)", x.of(0, 0)).due("now(1)", x.now(1), 0).due("now(2)", x.now(2), 0);
        e.due("count(2)", x.count(2), 0).beyond("about(0, 0)", x.about(0, 0)).due("now(3)", x.now(3), 0);
        e.due("count(3)", x.count(3), 0).due("now(5)", x.now(5), 0);
        e.due("count(1)", x.count(1), 0).due("wipe()", x.wipe(), 0).due("shop()", x.shop(), -1);
        e.due("undo()", x.undo(), Due.NONE).due("tear()", x.tear(), 0);
    }

    private static void nothingIsShared() {
        Edge e = Edge.promise(1, "No HATS, no HEADS; THE TAPE is empty, no image is kept.");
        HeadHats x = full();
        x.image();
        x.moths(1);
        x.weeks(9);
        x.feed(104, 1);
        x.sheet(0, 8, 3);
        x.hat(9);
        HeadHats y = new HeadHats();
        e.due("count(0) of another", y.count(0), 0).due("count(1)", y.count(1), 0).due("count(2)", y.count(2), 0);
        e.due("now(0)", y.now(0), 0).due("now(4)", y.now(4), 0).due("tear()", y.tear(), 0).due("status(-1)", y.status(-1), 0);
        e.due("lays(0)", y.lays(0), Due.MISSING);
        y.hat(5);
        e.due("of(0, 0) of the first", x.of(0, 0), 0).due("of(0, 0) of the other", y.of(0, 0), 5);
    }

    private static void weekAndMothsAtFirst() {
        HeadHats x = new HeadHats();
        Edge.term(20, "WEEK: 0 at first").due("now(0)", x.now(0), 0);
        Edge.term(20, "MOTHS: 0 or 1 (0 at first)").due("now(4)", x.now(4), 0).due("moths(0)", x.moths(0), 0);
    }

    private static void hatNumbers() {
        Edge e = Edge.promise(2, "A new HAT: its number.");
        HeadHats x = new HeadHats();
        for (int h = 0; h < 8; h++) {
            e.due("hat(5)", x.hat(5), h).due("count(0)", x.count(0), h + 1).beyond("of the next", x.of(h + 1, 0));
        }
        HeadHats y = Due.shopOf("hat;felt");
        e.due("hat(0), after two of a text", y.hat(0), 2);
    }

    private static void hatKindBeyond() {
        Edge e = Edge.promise(2, "BEYOND: kind.");
        HeadHats x = new HeadHats();
        e.beyond("hat(-1)", x.hat(-1)).beyond("hat(6)", x.hat(6)).beyond("hat(MIN)", x.hat(MIN)).beyond("hat(MAX)", x.hat(MAX));
        e.due("count(0)", x.count(0), 0).due("hat(0), the least", x.hat(0), 0).due("hat(5), the greatest", x.hat(5), 1);
        e.due("of(0, 0)", x.of(0, 0), 0).due("of(1, 0)", x.of(1, 0), 5);
    }

    private static void hatsAtMostEight() {
        Edge e = Edge.promise(2, "FULL.");
        HeadHats x = Due.shopOf("hat;hat;hat;hat;hat;hat;hat");
        e.due("hat(1), the 8th", x.hat(1), 7).due("hat(1), a 9th", x.hat(1), Due.FULL).due("count(0)", x.count(0), 8);
        e.due("of(7, 0)", x.of(7, 0), 1).beyond("of(8, 0)", x.of(8, 0)).due("status(1)", x.status(1), 1);
        e.beyond("hat(6), a 9th: the kind is asked first", x.hat(6)).beyond("hat(-1), a 9th", x.hat(-1));
        e.due("status(1)", x.status(1), 1);
    }

    private static void hatAtFirst() {
        Edge e = Edge.term(2, "each with FRESH of each THOUGHT (.. 0 of all at first), and a PLEDGE (.. 5 at first).");
        for (int k = 0; k <= 5; k++) {
            HeadHats x = new HeadHats();
            x.hat(k);
            e.due("of(0, 1)", x.of(0, 1), 0).due("of(0, 2)", x.of(0, 2), 5).due("of(0, 3)", x.of(0, 3), 0);
            for (int t = 0; t < 12; t++) {
                e.due("told(0, " + t + ")", x.told(0, t), 0);
            }
        }
    }

    /** A hat that comes where another was before it begins with nothing of that one. */
    private static void hatAnewAfterUndo() {
        Edge e = Edge.term(2, "each with FRESH of each THOUGHT (.. 0 of all at first), and a PLEDGE (.. 5 at first).");
        HeadHats x = new HeadHats();
        x.image();
        Due.read(x, "brim holds 4095 pledge 99;brim holds 4095 pledge 99");
        x.undo();
        e.due("hat(1)", x.hat(1), 0).due("of(0, 0)", x.of(0, 0), 1).due("of(0, 2)", x.of(0, 2), 5).due("of(0, 3)", x.of(0, 3), 0);
        Due.read(x, "straw");
        e.due("of(1, 0)", x.of(1, 0), 2).due("of(1, 2)", x.of(1, 2), 5).due("of(1, 3)", x.of(1, 3), 0);
    }

    private static void freshFromNoneToNine() {
        Edge e = Edge.promise(3, "FRESH of a THOUGHT of a HAT becomes v (0 to 9): what it was.");
        HeadHats x = full();
        for (int v = 0; v <= 9; v++) {
            e.due("fresh(7, 11, " + v + ")", x.fresh(7, 11, v), Math.max(0, v - 1)).due("told(7, 11)", x.told(7, 11), v);
        }
        e.due("fresh(0, 0, 9), the first", x.fresh(0, 0, 9), 0).due("fresh(0, 0, 9), as it is", x.fresh(0, 0, 9), 9);
        e.due("told(0, 1), another thought", x.told(0, 1), 0).due("told(1, 0), another hat", x.told(1, 0), 0);
        e.due("told(7, 10)", x.told(7, 10), 0).due("told(6, 11)", x.told(6, 11), 0);
    }

    private static void freshNoughtIsNotHeld() {
        Edge e = Edge.term(3, "0: it doesn't HOLD it");
        HeadHats x = Due.shopOf("hat");
        x.fresh(0, 11, 1);
        e.due("of(0, 1), of FRESH 1", x.of(0, 1), 2048);
        x.fresh(0, 11, 0);
        e.due("of(0, 1), of FRESH 0", x.of(0, 1), 0);
    }

    private static void freshBeyond() {
        Edge e = Edge.promise(3, "BEYOND.");
        HeadHats x = Due.shopOf("hat holds 4095;hat holds 4095");
        e.beyond("fresh(2, 0, 0)", x.fresh(2, 0, 0)).beyond("fresh(-1, 0, 0)", x.fresh(-1, 0, 0));
        e.beyond("fresh(8, 0, 0)", x.fresh(8, 0, 0)).beyond("fresh(MIN, 0, 0)", x.fresh(MIN, 0, 0));
        e.beyond("fresh(MAX, 0, 0)", x.fresh(MAX, 0, 0));
        e.beyond("fresh(0, 12, 0)", x.fresh(0, 12, 0)).beyond("fresh(0, -1, 0)", x.fresh(0, -1, 0));
        e.beyond("fresh(0, MIN, 0)", x.fresh(0, MIN, 0)).beyond("fresh(0, MAX, 0)", x.fresh(0, MAX, 0));
        e.beyond("fresh(0, 0, 10)", x.fresh(0, 0, 10)).beyond("fresh(0, 0, -1)", x.fresh(0, 0, -1));
        e.beyond("fresh(0, 0, MIN)", x.fresh(0, 0, MIN)).beyond("fresh(0, 0, MAX)", x.fresh(0, 0, MAX));
        e.due("now(1), nothing changed", x.now(1), 216);
    }

    private static void ofWhat() {
        Edge e = Edge.promise(4, "Of a HAT: what 0 KIND, 1 THOUGHTS that it HOLDS, as a set, 2 PLEDGE, 3 FRESH of all together, ..");
        HeadHats x = Due.shopOf("brim holds 2049 pledge 99;hat holds 4095 pledge 0;hat holds 0");
        x.fresh(0, 5, 1);
        int[][] due = {{5, 2081, 99, 19}, {0, 4095, 0, 108}, {0, 0, 5, 0}};
        for (int h = 0; h < 3; h++) {
            for (int what = 0; what < 4; what++) {
                e.due("of(" + h + ", " + what + ")", x.of(h, what), due[h][what]);
            }
        }
    }

    private static void ofSums() {
        Edge e = Edge.term(4, "THOUGHTS are 0 to 11 (sets of them: 0 to 4095).");
        HeadHats x = Due.shopOf("hat");
        for (int t = 0; t < 12; t++) {
            x.fresh(0, t, 1);
            e.due("of(0, 1)", x.of(0, 1), (2 << t) - 1).due("of(0, 3)", x.of(0, 3), t + 1);
        }
    }

    private static void ofFadesNext() {
        Edge e = Edge.promise(4, "4 what it FADES in the WEEK that goes next.");
        HeadHats x = full();
        e.due("of(1, 4), felt in WEEK 0", x.of(1, 4), 0).due("of(4, 4), mitre in WEEK 0", x.of(4, 4), 1);
        for (int i = 0; i < 166; i++) {
            x.weeks(60);
        }
        x.weeks(38);
        int[] at9998 = {1, 0, 2, 1, 0, 1};
        int[] at9999 = {1, 1, 2, 1, 2, 1};
        for (int h = 0; h < 6; h++) {
            e.due("of(" + h + ", 4) in WEEK 9998", x.of(h, 4), at9998[h]);
        }
        x.weeks(1);
        for (int h = 0; h < 6; h++) {
            e.due("of(" + h + ", 4) in WEEK 9999, the last", x.of(h, 4), at9999[h]);
        }
    }

    private static void ofBeyond() {
        Edge e = Edge.promise(4, "BEYOND.");
        HeadHats x = Due.shopOf("hat;hat");
        e.beyond("of(2, 0)", x.of(2, 0)).beyond("of(-1, 0)", x.of(-1, 0)).beyond("of(MIN, 0)", x.of(MIN, 0));
        e.beyond("of(MAX, 0)", x.of(MAX, 0));
        e.beyond("of(0, 5)", x.of(0, 5)).beyond("of(0, -1)", x.of(0, -1)).beyond("of(0, MIN)", x.of(0, MIN));
        e.beyond("of(0, MAX)", x.of(0, MAX));
        e.due("of(1, 4), the last of both", x.of(1, 4), 1);
    }

    private static void toldOfEach() {
        Edge e = Edge.promise(5, "FRESH of a THOUGHT of a HAT.");
        HeadHats x = full();
        x.fresh(0, 0, 9);
        x.fresh(7, 11, 1);
        e.due("told(0, 0)", x.told(0, 0), 9).due("told(7, 11)", x.told(7, 11), 1).due("told(0, 11)", x.told(0, 11), 0);
        e.due("told(7, 0)", x.told(7, 0), 0);
    }

    private static void toldBeyond() {
        Edge e = Edge.promise(5, "BEYOND.");
        HeadHats x = Due.shopOf("hat;hat");
        e.beyond("told(2, 0)", x.told(2, 0)).beyond("told(-1, 0)", x.told(-1, 0)).beyond("told(MIN, 0)", x.told(MIN, 0));
        e.beyond("told(MAX, 0)", x.told(MAX, 0));
        e.beyond("told(0, 12)", x.told(0, 12)).beyond("told(0, -1)", x.told(0, -1)).beyond("told(0, MIN)", x.told(0, MIN));
        e.beyond("told(0, MAX)", x.told(0, MAX));
    }

    private static void pledgeOfAll() {
        Edge e = Edge.term(6, "a PLEDGE (0 to 99 pennies; 5 at first)");
        HeadHats x = full();
        e.due("pledge(7, 0)", x.pledge(7, 0), 5).due("pledge(7, 99)", x.pledge(7, 99), 0);
        e.due("pledge(7, 99), as it is", x.pledge(7, 99), 99);
        e.due("of(7, 2)", x.of(7, 2), 99).due("of(6, 2)", x.of(6, 2), 5);
    }

    private static void pledgeBeyond() {
        Edge e = Edge.promise(6, "BEYOND.");
        HeadHats x = Due.shopOf("hat;hat");
        e.beyond("pledge(0, 100)", x.pledge(0, 100)).beyond("pledge(0, -1)", x.pledge(0, -1));
        e.beyond("pledge(0, MIN)", x.pledge(0, MIN)).beyond("pledge(0, MAX)", x.pledge(0, MAX));
        e.beyond("pledge(2, 0)", x.pledge(2, 0)).beyond("pledge(-1, 0)", x.pledge(-1, 0));
        e.beyond("pledge(MIN, 0)", x.pledge(MIN, 0)).beyond("pledge(MAX, 0)", x.pledge(MAX, 0));
        e.due("count(3), nothing changed", x.count(3), 10);
    }

    private static void turnToEach() {
        Edge e = Edge.promise(7, "A HAT becomes one of another KIND: what it was.");
        HeadHats x = Due.shopOf("felt holds 4095 pledge 99;hat");
        for (int from = 0; from <= 5; from++) {
            for (int to = 0; to <= 5; to++) {
                x.turn(0, from);
                e.due("turn(0, " + to + ")", x.turn(0, to), from).due("of(0, 0)", x.of(0, 0), to);
            }
        }
        e.due("of(0, 2), the PLEDGE stays", x.of(0, 2), 99).due("of(0, 3), FRESH stays", x.of(0, 3), 108);
        e.due("of(1, 0)", x.of(1, 0), 0);
    }

    private static void turnBeyond() {
        Edge e = Edge.promise(7, "BEYOND.");
        HeadHats x = Due.shopOf("straw;straw");
        e.beyond("turn(0, 6)", x.turn(0, 6)).beyond("turn(0, -1)", x.turn(0, -1)).beyond("turn(0, MIN)", x.turn(0, MIN));
        e.beyond("turn(0, MAX)", x.turn(0, MAX));
        e.beyond("turn(2, 0)", x.turn(2, 0)).beyond("turn(-1, 0)", x.turn(-1, 0)).beyond("turn(MIN, 0)", x.turn(MIN, 0));
        e.beyond("turn(MAX, 0)", x.turn(MAX, 0));
        e.due("of(0, 0)", x.of(0, 0), 2).due("of(1, 0)", x.of(1, 0), 2);
    }

    private static void asBeyond() {
        Edge e = Edge.promise(8, "BEYOND: no such one, kind.");
        HeadHats x = Due.shopOf("hat;brim");
        e.beyond("as(2, 0)", x.as(2, 0)).beyond("as(-1, 0)", x.as(-1, 0)).beyond("as(MIN, 0)", x.as(MIN, 0));
        e.beyond("as(MAX, 0)", x.as(MAX, 0));
        e.beyond("as(0, 6)", x.as(0, 6)).beyond("as(0, -1)", x.as(0, -1)).beyond("as(0, MIN)", x.as(0, MIN));
        e.beyond("as(0, MAX)", x.as(0, MAX));
        e.beyond("as(2, 5), no KIND of none", x.as(2, 5)).due("status(2)", x.status(2), 0);
    }

    private static void asOtherKind() {
        Edge e = Edge.promise(8, "KIND: it isn't of that kind, nor of one under it.");
        HeadHats x = Due.shopOf("hat pledge 10;felt pledge 11;straw pledge 12;feather pledge 13;mitre pledge 0;brim pledge 99");
        int[] pledges = {10, 11, 12, 13, 0, 99};
        int[][] above = {{0}, {0, 1}, {0, 2}, {0, 3}, {0, 1, 4}, {0, 2, 5}};
        for (int h = 0; h < 6; h++) {
            for (int k = 0; k < 6; k++) {
                int want = Due.KIND;
                for (int a : above[h]) {
                    want = a == k ? pledges[h] : want;
                }
                e.due("as(" + h + ", " + k + ")", x.as(h, k), want);
            }
        }
        e.due("status(2)", x.status(2), 36 - 13);
        x.turn(5, 4);
        e.due("as(5, 1), turned", x.as(5, 1), 99).due("as(5, 2), turned", x.as(5, 2), Due.KIND);
    }

    private static void headNumbers() {
        Edge e = Edge.promise(9, "A new HEAD that HAS a set: its number.");
        HeadHats x = new HeadHats();
        int[] sets = {0, 4095, 1, 2048, 4094, 2047};
        for (int d = 0; d < 6; d++) {
            e.due("head(" + sets[d] + ")", x.head(sets[d]), d).due("about(" + d + ", 0)", x.about(d, 0), sets[d]);
            e.due("count(2)", x.count(2), d + 1).beyond("of the next", x.about(d + 1, 0));
        }
    }

    private static void headSetBeyond() {
        Edge e = Edge.promise(9, "BEYOND.");
        HeadHats x = new HeadHats();
        e.beyond("head(4096)", x.head(4096)).beyond("head(-1)", x.head(-1)).beyond("head(MIN)", x.head(MIN));
        e.beyond("head(MAX)", x.head(MAX));
        e.due("count(2)", x.count(2), 0).due("head(4095)", x.head(4095), 0).due("head(0)", x.head(0), 1);
    }

    private static void headsAtMostSix() {
        Edge e = Edge.promise(9, "FULL.");
        HeadHats x = Due.shopOf("head;head;head;head;head");
        e.due("head(1), the 6th", x.head(1), 5).due("head(1), a 7th", x.head(1), Due.FULL).due("count(2)", x.count(2), 6);
        e.due("about(5, 0)", x.about(5, 0), 1).beyond("about(6, 0)", x.about(6, 0)).due("status(1)", x.status(1), 1);
        e.beyond("head(4096), a 7th: the set is asked first", x.head(4096)).beyond("head(-1), a 7th", x.head(-1));
        e.due("status(1)", x.status(1), 1);
    }

    private static void headAtFirst() {
        Edge e = Edge.term(9, "each with a set of THOUGHTS that it HAS (none at first), BALD or not (not at first), PENNIES (0 at first, ..)");
        HeadHats x = new HeadHats();
        x.image();
        Due.read(x, "head has 4095 bald;head has 4095 bald");
        x.mind(0, 2, 9999);
        x.mind(1, 2, 9999);
        x.undo();
        x.head(3);
        Due.read(x, "head");
        e.due("about(0, 0), as told", x.about(0, 0), 3).due("about(1, 0), of a text without has", x.about(1, 0), 0);
        for (int d = 0; d < 2; d++) {
            e.due("about(" + d + ", 1)", x.about(d, 1), 0).due("about(" + d + ", 2)", x.about(d, 2), 0);
        }
    }

    private static void aboutWhat() {
        Edge e = Edge.promise(10, "Of a HEAD: what 0 THOUGHTS that it HAS, 1 whether it is BALD (1, 0), 2 PENNIES.");
        HeadHats x = Due.shopOf("head has 4095 bald;head");
        x.mind(0, 2, 9999);
        e.due("about(0, 0)", x.about(0, 0), 4095).due("about(0, 1)", x.about(0, 1), 1).due("about(0, 2)", x.about(0, 2), 9999);
        e.due("about(1, 0)", x.about(1, 0), 0).due("about(1, 1)", x.about(1, 1), 0).due("about(1, 2)", x.about(1, 2), 0);
    }

    private static void aboutBeyond() {
        Edge e = Edge.promise(10, "BEYOND.");
        HeadHats x = Due.shopOf("head;head;hat;hat;hat");
        e.beyond("about(2, 0)", x.about(2, 0)).beyond("about(-1, 0)", x.about(-1, 0)).beyond("about(MIN, 0)", x.about(MIN, 0));
        e.beyond("about(MAX, 0)", x.about(MAX, 0));
        e.beyond("about(0, 3)", x.about(0, 3)).beyond("about(0, -1)", x.about(0, -1)).beyond("about(0, MIN)", x.about(0, MIN));
        e.beyond("about(0, MAX)", x.about(0, MAX));
    }

    private static void mindHas() {
        Edge e = Edge.promise(11, "What it HAS (what 0), .. of a HEAD becomes v: what it was.");
        HeadHats x = Due.shopOf("head;head");
        e.due("mind(1, 0, 4095)", x.mind(1, 0, 4095), 0).due("mind(1, 0, 0)", x.mind(1, 0, 0), 4095);
        e.beyond("mind(1, 0, 4096)", x.mind(1, 0, 4096)).beyond("mind(1, 0, -1)", x.mind(1, 0, -1));
        e.beyond("mind(1, 0, MIN)", x.mind(1, 0, MIN)).beyond("mind(1, 0, MAX)", x.mind(1, 0, MAX));
        e.due("about(1, 0)", x.about(1, 0), 0).due("about(0, 0)", x.about(0, 0), 0);
    }

    private static void mindBald() {
        Edge e = Edge.promise(11, "BALD (1) .. of a HEAD becomes v: what it was.");
        HeadHats x = Due.shopOf("head;head");
        e.due("mind(1, 1, 1)", x.mind(1, 1, 1), 0).due("mind(1, 1, 1), as it is", x.mind(1, 1, 1), 1);
        e.beyond("mind(1, 1, 2)", x.mind(1, 1, 2)).beyond("mind(1, 1, -1)", x.mind(1, 1, -1));
        e.beyond("mind(1, 1, MIN)", x.mind(1, 1, MIN)).beyond("mind(1, 1, MAX)", x.mind(1, 1, MAX));
        e.due("about(1, 1)", x.about(1, 1), 1).due("about(0, 1)", x.about(0, 1), 0).due("mind(1, 1, 0)", x.mind(1, 1, 0), 1);
        e.due("about(1, 1)", x.about(1, 1), 0);
    }

    private static void mindPennies() {
        Edge e = Edge.term(11, "PENNIES (0 at first, held to 0 and 9999).");
        HeadHats x = Due.shopOf("head;head");
        e.due("mind(1, 2, 9999)", x.mind(1, 2, 9999), 0).due("mind(1, 2, 0)", x.mind(1, 2, 0), 9999);
        e.due("mind(1, 2, 8)", x.mind(1, 2, 8), 0);
        e.beyond("mind(1, 2, 10000)", x.mind(1, 2, 10000)).beyond("mind(1, 2, -1)", x.mind(1, 2, -1));
        e.beyond("mind(1, 2, MIN)", x.mind(1, 2, MIN)).beyond("mind(1, 2, MAX)", x.mind(1, 2, MAX));
        e.due("about(1, 2)", x.about(1, 2), 8).due("about(0, 2)", x.about(0, 2), 0);
    }

    private static void mindBeyond() {
        Edge e = Edge.promise(11, "BEYOND.");
        HeadHats x = Due.shopOf("head;head");
        e.beyond("mind(2, 0, 0)", x.mind(2, 0, 0)).beyond("mind(-1, 0, 0)", x.mind(-1, 0, 0));
        e.beyond("mind(MIN, 0, 0)", x.mind(MIN, 0, 0)).beyond("mind(MAX, 0, 0)", x.mind(MAX, 0, 0));
        e.beyond("mind(0, 3, 0)", x.mind(0, 3, 0)).beyond("mind(0, -1, 0)", x.mind(0, -1, 0));
        e.beyond("mind(0, MIN, 0)", x.mind(0, MIN, 0)).beyond("mind(0, MAX, 0)", x.mind(0, MAX, 0));
    }

    private static void mothsBoth() {
        Edge e = Edge.promise(12, "MOTHS become v (0, 1): what they were.");
        HeadHats x = new HeadHats();
        e.due("moths(0)", x.moths(0), 0).due("moths(1)", x.moths(1), 0).due("moths(1)", x.moths(1), 1);
        e.due("moths(0)", x.moths(0), 1);
        e.due("moths(0)", x.moths(0), 0);
    }

    private static void mothsBeyond() {
        Edge e = Edge.promise(12, "BEYOND.");
        HeadHats x = new HeadHats();
        x.moths(1);
        e.beyond("moths(2)", x.moths(2)).beyond("moths(-1)", x.moths(-1)).beyond("moths(MIN)", x.moths(MIN));
        e.beyond("moths(MAX)", x.moths(MAX));
        e.due("now(4)", x.now(4), 1);
    }
}
