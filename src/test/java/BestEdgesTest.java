/** Promises 24 to 30, and the term of rows: each sentence that names a boundary case has a test of its own. */
public final class BestEdgesTest {
    private static final int MIN = Integer.MIN_VALUE;
    private static final int MAX = Integer.MAX_VALUE;
    private static final int ALL = 4095;

    public static void main(String[] args) {
        bestByWhatItHasThen();
        bestOfSeveralTheLeast();
        bestBeyond();
        bestNone();
        rowOfNoHat();
        rowOfFewest();
        rowByNumber();
        rowNames();
        rowAllOfASet();
        rowNoneTwice();
        rowInThatOrder();
        rowChangesNothing();
        rowBeyond();
        rowNone();
        rowsOfJustSoMany();
        rowsOfJustASet();
        rowsOfMoreThanThereAre();
        rowsBeyond();
        kindGivesMost();
        kindOfSeveralTheLeast();
        kindBeyond();
        lastingMost();
        lastingOfSeveralTheLeast();
        lastingByMoths();
        lastingBeyond();
        wornAsFreshOrMore();
        wornHoldsAll();
        wornByFeather();
        wornAsASet();
        wornBeyond();
        beforeLeast();
        beforeOfFresh1();
        beforeOfMitre();
        beforeNone();
        beforeBeyond();
        Due.end();
    }

    private static HeadHats eightHats() {
        return Due.shopOf("hat;hat;hat;hat;hat;hat;hat;hat;head");
    }

    private static void bestByWhatItHasThen() {
        Edge e = Edge.promise(24, "The HAT that, TRIED ON alone, gives a HEAD most THOUGHTS (that it has then)");
        HeadHats x = Due.shopOf("hat holds 7;hat holds 8;head has 7;head;head has 15");
        e.due("best(0), one new before three that it HAS", x.best(0), 1).due("best(1)", x.best(1), 0).due("best(2)", x.best(2), 0);
        HeadHats y = Due.shopOf("straw holds 4095;brim holds 4095;mitre holds 2048;head");
        e.due("best(0), a mitre's two", y.best(0), 2).due("about(0, 0), nothing changes", y.about(0, 0), 0);
        HeadHats z = eightHats();
        z.fresh(7, 11, 1);
        e.due("best(0), the last HAT", z.best(0), 7).due("about(0, 2)", z.about(0, 2), 0);
    }

    private static void bestOfSeveralTheLeast() {
        Edge e = Edge.promise(24, "of several the least.");
        HeadHats x = eightHats();
        e.due("best(0), of eight that give none", x.best(0), 0);
        x.fresh(5, 3, 9);
        x.fresh(3, 9, 1);
        e.due("best(0), of 3 and 5", x.best(0), 3);
        x.mind(0, 0, ALL);
        e.due("best(0), of a head that HAS all", x.best(0), 0);
    }

    private static void bestBeyond() {
        Edge e = Edge.promise(24, "BEYOND.");
        HeadHats x = Due.shopOf("hat;head;head");
        e.due("best(1), the last head", x.best(1), 0).beyond("best(2)", x.best(2)).beyond("best(-1)", x.best(-1));
        e.beyond("best(MIN)", x.best(MIN)).beyond("best(MAX)", x.best(MAX));
    }

    private static void bestNone() {
        Edge e = Edge.promise(24, "NONE: there is no HAT.");
        HeadHats x = Due.shopOf("head");
        e.due("best(0)", x.best(0), Due.NONE).beyond("best(1), asked first", x.best(1)).beyond("best(-1)", x.best(-1));
        e.due("status(3)", x.status(3), 1);
        x.image();
        x.hat(0);
        e.due("best(0), of one HAT", x.best(0), 0);
        x.undo();
        e.due("best(0), of none again", x.best(0), Due.NONE);
    }

    private static void rowOfNoHat() {
        Edge e = Edge.promise(25, "ROWS of at most 3 HATS .. (0: none).");
        HeadHats x = Due.shopOf("head has 2049");
        e.due("row(0, 0)", x.row(0, 0), 0).due("row(0, 2049)", x.row(0, 2049), 0).due("row(0, 1)", x.row(0, 1), 0);
        x.hat(0);
        x.fresh(0, 0, 9);
        e.due("row(0, 2049), had already", x.row(0, 2049), 0);
    }

    private static void rowOfFewest() {
        Edge e = Edge.promise(25, "the first of fewest HATS");
        HeadHats x = eightHats();
        x.fresh(0, 0, 9);
        x.fresh(1, 1, 9);
        x.fresh(2, 2, 9);
        e.due("row(0, 7), of three", x.row(0, 7), 123);
        x.fresh(7, 1, 9);
        x.fresh(7, 2, 9);
        e.due("row(0, 7), of two", x.row(0, 7), 180);
        x.fresh(6, 0, 9);
        x.fresh(6, 1, 9);
        x.fresh(6, 2, 9);
        e.due("row(0, 7), of one", x.row(0, 7), 700);
        x.mind(0, 0, 7);
        e.due("row(0, 7), of none", x.row(0, 7), 0);
    }

    private static void rowByNumber() {
        Edge e = Edge.promise(25, "(by number, HAT by HAT)");
        HeadHats x = eightHats();
        x.fresh(2, 0, 9);
        x.fresh(5, 0, 9);
        x.fresh(4, 1, 9);
        x.fresh(6, 1, 9);
        e.due("row(0, 1)", x.row(0, 1), 300).due("row(0, 3)", x.row(0, 3), 350).due("row(0, 2)", x.row(0, 2), 500);
        x.fresh(2, 0, 0);
        e.due("row(0, 3), the lesser of both ahead", x.row(0, 3), 560);
        // The straw gives 0 to an empty head, so it must come after another that gives 0: the later ones count.
        HeadHats y = Due.shopOf("straw holds 7;hat holds 1;hat holds 2;head");
        e.due("row(0, 7), 1 2 0 is the first that does", y.row(0, 7), 231);
    }

    private static void rowNames() {
        Edge e = Edge.promise(25, "as 100 times the first, 10 times the second, and the third, each and 1");
        HeadHats x = eightHats();
        x.fresh(5, 0, 9);
        x.fresh(6, 1, 9);
        x.fresh(7, 2, 9);
        e.due("row(0, 7)", x.row(0, 7), 678).due("row(0, 6)", x.row(0, 6), 780).due("row(0, 4)", x.row(0, 4), 800);
        x.turn(5, 2);
        x.fresh(5, 0, 0);
        x.fresh(5, 1, 9);
        x.fresh(5, 2, 9);
        x.fresh(5, 3, 9);
        e.due("row(0, 14), the straw last", x.row(0, 14), 786);
    }

    private static void rowAllOfASet() {
        Edge e = Edge.promise(25, "by which a HEAD HAS all of a set then");
        HeadHats x = Due.shopOf("hat holds 4095;head");
        e.due("row(0, 4095)", x.row(0, 4095), 100).due("row(0, 2048), more than it", x.row(0, 2048), 100);
        e.due("row(0, 0)", x.row(0, 0), 0);
        x.fresh(0, 11, 0);
        e.due("row(0, 4095), but for one", x.row(0, 4095), Due.NONE);
        x.mind(0, 0, 2048);
        e.due("row(0, 4095), with what it HAS", x.row(0, 4095), 100);
    }

    private static void rowNoneTwice() {
        Edge e = Edge.term(25, "A ROW of HATS, one after the other (none twice)");
        HeadHats x = Due.shopOf("straw holds 3;head");
        e.due("row(0, 3), the straw alone", x.row(0, 3), Due.NONE).due("rows(0, 1, 1)", x.rows(0, 1, 1), 1);
        e.due("rows(0, 3, 2)", x.rows(0, 3, 2), 0);
        Due.read(x, "hat");
        e.due("row(0, 3), with another between", x.row(0, 3), Due.NONE).due("rows(0, 1, 2)", x.rows(0, 1, 2), 2);
        e.due("rows(0, 3, 3)", x.rows(0, 3, 3), 0);
        Due.read(x, "straw holds 3");
        e.due("row(0, 3), of two straws", x.row(0, 3), 130);
    }

    private static void rowInThatOrder() {
        Edge e = Edge.term(25, "gives a HEAD THOUGHTS, if it tries them on in that order now (no WEEK between)");
        HeadHats x = Due.shopOf("brim holds 2049;hat holds 2048;head");
        e.due("row(0, 1), the hat first", x.row(0, 1), 210).due("rows(0, 2049, 2)", x.rows(0, 2049, 2), 1);
        e.due("rows(0, 2048, 2)", x.rows(0, 2048, 2), 1);
        HeadHats y = Due.shopOf("hat;hat;hat;head");
        for (int h = 0; h < 3; h++) {
            y.fresh(h, h, 1);
        }
        e.due("row(0, 7), nothing fades between", y.row(0, 7), 123);
    }

    private static void rowChangesNothing() {
        Edge e = Edge.term(25, "A ROW .. nothing changes.");
        HeadHats x = Due.shopOf("straw holds 5;hat holds 8;feather holds 16;head has 3");
        x.row(0, 31);
        x.rows(0, 31, 3);
        x.best(0);
        x.kind(0, 0);
        e.due("now(1)", x.now(1), 36).due("of(0, 1)", x.of(0, 1), 5).due("of(1, 1)", x.of(1, 1), 8).due("of(2, 1)", x.of(2, 1), 16);
        e.due("about(0, 0)", x.about(0, 0), 3).due("about(0, 2)", x.about(0, 2), 0).due("now(0)", x.now(0), 0);
        e.due("of(0, 0)", x.of(0, 0), 2);
    }

    private static void rowBeyond() {
        Edge e = Edge.promise(25, "BEYOND.");
        HeadHats x = Due.shopOf("hat;head;head");
        e.due("row(1, 0), the last head", x.row(1, 0), 0);
        e.beyond("row(2, 0)", x.row(2, 0)).beyond("row(-1, 0)", x.row(-1, 0)).beyond("row(MIN, 0)", x.row(MIN, 0));
        e.beyond("row(MAX, 0)", x.row(MAX, 0));
        e.beyond("row(0, 4096)", x.row(0, 4096)).beyond("row(0, -1)", x.row(0, -1)).beyond("row(0, MIN)", x.row(0, MIN));
        e.beyond("row(0, MAX)", x.row(0, MAX));
        e.beyond("row(2, 4095), no NONE", x.row(2, 4095)).due("status(3)", x.status(3), 0);
    }

    private static void rowNone() {
        Edge e = Edge.promise(25, "NONE: no such row.");
        HeadHats x = Due.shopOf("head;hat holds 1;hat holds 2;hat holds 4;hat holds 8");
        e.due("row(0, 15), four would", x.row(0, 15), Due.NONE).due("row(0, 7), three do", x.row(0, 7), 123);
        e.due("row(0, 14), the last three", x.row(0, 14), 234).due("row(0, 16), none gives it", x.row(0, 16), Due.NONE);
        HeadHats y = Due.shopOf("head has 4094");
        e.due("row(0, 1), no HAT", y.row(0, 1), Due.NONE).due("row(0, 4095)", y.row(0, 4095), Due.NONE);
        e.due("row(0, 4094)", y.row(0, 4094), 0);
    }

    private static void rowsOfJustSoMany() {
        Edge e = Edge.promise(26, "How many ROWS of just n HATS (0 to 3) ..");
        HeadHats x = eightHats();
        int[] due = {1, 8, 56, 336};
        for (int n = 0; n <= 3; n++) {
            e.due("rows(0, 0, " + n + "), the most", x.rows(0, 0, n), due[n]);
        }
        x.fresh(7, 11, 1);
        int[] with = {0, 1, 14, 126};
        int[] without = {1, 7, 42, 210};
        for (int n = 0; n <= 3; n++) {
            e.due("rows(0, 2048, " + n + ")", x.rows(0, 2048, n), with[n]);
            e.due("rows(0, 0, " + n + ")", x.rows(0, 0, n), without[n]);
        }
    }

    private static void rowsOfJustASet() {
        Edge e = Edge.promise(26, "make a HEAD HAVE just a set then.");
        HeadHats x = Due.shopOf("hat holds 3;head;head has 4095;head has 4");
        e.due("rows(0, 3, 1)", x.rows(0, 3, 1), 1).due("rows(0, 1, 1), less than it", x.rows(0, 1, 1), 0);
        e.due("rows(0, 7, 1), more", x.rows(0, 7, 1), 0);
        e.due("rows(2, 7, 1), with what it HAS", x.rows(2, 7, 1), 1).due("rows(2, 3, 1)", x.rows(2, 3, 1), 0);
        e.due("rows(1, 4095, 1)", x.rows(1, 4095, 1), 1).due("rows(1, 4095, 0)", x.rows(1, 4095, 0), 1);
        e.due("rows(1, 0, 0)", x.rows(1, 0, 0), 0);
        e.due("rows(2, 0, 0)", x.rows(2, 0, 0), 0).due("rows(2, 4, 0)", x.rows(2, 4, 0), 1);
    }

    private static void rowsOfMoreThanThereAre() {
        Edge e = Edge.promise(26, "How many ROWS of just n HATS (0 to 3) ..");
        HeadHats x = Due.shopOf("head");
        for (int n = 0; n <= 3; n++) {
            e.due("rows(0, 0, " + n + "), of no HAT", x.rows(0, 0, n), n == 0 ? 1 : 0);
        }
        Due.read(x, "hat;hat");
        e.due("rows(0, 0, 2), of two", x.rows(0, 0, 2), 2).due("rows(0, 0, 3)", x.rows(0, 0, 3), 0);
        e.due("status(-1)", x.status(-1), 0);
    }

    private static void rowsBeyond() {
        Edge e = Edge.promise(26, "BEYOND.");
        HeadHats x = Due.shopOf("hat;head;head");
        e.due("rows(1, 0, 3), the last head", x.rows(1, 0, 3), 0);
        e.beyond("rows(2, 0, 0)", x.rows(2, 0, 0)).beyond("rows(-1, 0, 0)", x.rows(-1, 0, 0));
        e.beyond("rows(MIN, 0, 0)", x.rows(MIN, 0, 0)).beyond("rows(MAX, 0, 0)", x.rows(MAX, 0, 0));
        e.beyond("rows(0, 4096, 0)", x.rows(0, 4096, 0)).beyond("rows(0, -1, 0)", x.rows(0, -1, 0));
        e.beyond("rows(0, MIN, 0)", x.rows(0, MIN, 0)).beyond("rows(0, MAX, 0)", x.rows(0, MAX, 0));
        e.beyond("rows(0, 0, 4)", x.rows(0, 0, 4)).beyond("rows(0, 0, -1)", x.rows(0, 0, -1));
        e.beyond("rows(0, 0, MIN)", x.rows(0, 0, MIN)).beyond("rows(0, 0, MAX)", x.rows(0, 0, MAX));
    }

    private static void kindGivesMost() {
        Edge e = Edge.promise(27, "The KIND as one of which a HAT gives a HEAD most THOUGHTS, TRIED ON alone");
        HeadHats x = Due.shopOf("brim holds 2;head;head has 1;head has 2");
        e.due("kind(0, 0), a mitre's besides", x.kind(0, 0), 4).due("kind(0, 1), had already", x.kind(0, 1), 0);
        e.due("kind(0, 2)", x.kind(0, 2), 4);
        x.fresh(0, 1, 3);
        e.due("kind(0, 0), of FRESH 3", x.kind(0, 0), 4);
        x.fresh(0, 1, 2);
        e.due("kind(0, 0), of FRESH 2", x.kind(0, 0), 0);
        x.fresh(0, 2, 3);
        e.due("kind(0, 0), one of two", x.kind(0, 0), 0).due("kind(0, 2), the weak one had", x.kind(0, 2), 4);
        e.due("of(0, 0), nothing changes", x.of(0, 0), 5).due("about(0, 0)", x.about(0, 0), 0);
    }

    private static void kindOfSeveralTheLeast() {
        Edge e = Edge.promise(27, "of several the least.");
        HeadHats x = Due.shopOf("brim;mitre holds 1;straw holds 4095;head;head has 4095");
        for (int h = 0; h < 3; h++) {
            e.due("kind(" + h + ", 0)", x.kind(h, 0), 0).due("kind(" + h + ", 1), of one that HAS all", x.kind(h, 1), 0);
        }
    }

    private static void kindBeyond() {
        Edge e = Edge.promise(27, "BEYOND.");
        HeadHats x = Due.shopOf("hat;hat;hat;head;head");
        e.due("kind(2, 1), the last ones", x.kind(2, 1), 0);
        e.beyond("kind(3, 0)", x.kind(3, 0)).beyond("kind(-1, 0)", x.kind(-1, 0)).beyond("kind(MIN, 0)", x.kind(MIN, 0));
        e.beyond("kind(MAX, 0)", x.kind(MAX, 0));
        e.beyond("kind(0, 2)", x.kind(0, 2)).beyond("kind(0, -1)", x.kind(0, -1)).beyond("kind(0, MIN)", x.kind(0, MIN));
        e.beyond("kind(0, MAX)", x.kind(0, MAX));
    }

    private static void lastingMost() {
        Edge e = Edge.promise(28, "The KIND as one of which a HAT has most FRESH ON n WEEKS (0 to 60)");
        HeadHats x = Due.shopOf("brim holds 1");
        e.due("lasting(0, 0)", x.lasting(0, 0), 0).due("lasting(0, 1)", x.lasting(0, 1), 1);
        e.due("lasting(0, 17)", x.lasting(0, 17), 1);
        e.due("lasting(0, 18)", x.lasting(0, 18), 0).due("lasting(0, 60)", x.lasting(0, 60), 0).due("of(0, 0)", x.of(0, 0), 5);
        x.weeks(1);
        e.due("lasting(0, 1), in WEEK 1", x.lasting(0, 1), 0).due("lasting(0, 2)", x.lasting(0, 2), 1);
        x.weeks(1);
        e.due("lasting(0, 1), in WEEK 2", x.lasting(0, 1), 1).due("now(0), nothing changes", x.now(0), 2);
        e.due("of(0, 3)", x.of(0, 3), 7);
    }

    private static void lastingOfSeveralTheLeast() {
        Edge e = Edge.promise(28, "of several the least.");
        HeadHats x = Due.shopOf("brim;mitre holds 4095");
        e.due("lasting(0, 5), of nothing", x.lasting(0, 5), 0).due("lasting(1, 0)", x.lasting(1, 0), 0);
        e.due("lasting(1, 60), none left", x.lasting(1, 60), 0);
    }

    private static void lastingByMoths() {
        Edge e = Edge.promise(28, "The KIND as one of which a HAT has most FRESH ON n WEEKS (0 to 60)");
        HeadHats x = Due.shopOf("hat holds 3;moths");
        x.fresh(0, 2, 2);
        // As hat 8 and 1 are left, as felt 9 and 2; as straw the third has faded first, so that no middle goes: 7 and 7.
        e.due("lasting(0, 1), with MOTHS", x.lasting(0, 1), 2);
        x.moths(0);
        e.due("lasting(0, 1), without", x.lasting(0, 1), 1);
    }

    private static void lastingBeyond() {
        Edge e = Edge.promise(28, "BEYOND.");
        HeadHats x = Due.shopOf("hat;hat");
        e.beyond("lasting(2, 0)", x.lasting(2, 0)).beyond("lasting(-1, 0)", x.lasting(-1, 0));
        e.beyond("lasting(MIN, 0)", x.lasting(MIN, 0)).beyond("lasting(MAX, 0)", x.lasting(MAX, 0));
        e.beyond("lasting(0, 61)", x.lasting(0, 61)).beyond("lasting(0, -1)", x.lasting(0, -1));
        e.beyond("lasting(0, MIN)", x.lasting(0, MIN)).beyond("lasting(0, MAX)", x.lasting(0, MAX));
        e.due("lasting(1, 60), the last of both", x.lasting(1, 60), 0);
    }

    private static void wornAsFreshOrMore() {
        Edge e = Edge.promise(29, "each with FRESH that it KEEPS of theirs or more");
        int[] least = {9, 9, 4, 8, 9, 5};
        for (int k = 0; k <= 5; k++) {
            HeadHats x = Due.shopOf("head has 2048");
            x.hat(k);
            for (int v = 0; v <= 9; v++) {
                x.fresh(0, 11, v);
                e.due("worn(0), of KIND " + k + ", FRESH " + v, x.worn(0), v >= least[k] ? 1 : 0);
            }
        }
    }

    private static void wornHoldsAll() {
        Edge e = Edge.promise(29, "it HOLDS all that they HAVE");
        HeadHats x = Due.shopOf("hat holds 3;head has 1;head has 2;head has 3;head has 7;head has 4;head");
        e.due("worn(0), also one that HAS none", x.worn(0), 1 + 2 + 4 + 32);
        x.fresh(0, 1, 8);
        e.due("worn(0), one of two not FRESH enough", x.worn(0), 1 + 32);
        x.fresh(0, 0, 0);
        e.due("worn(0)", x.worn(0), 32);
    }

    private static void wornByFeather() {
        Edge e = Edge.promise(29, "each with FRESH that it KEEPS of theirs or more");
        HeadHats x = Due.shopOf("feather;head has 4095;head has 255;head has 127");
        e.due("worn(0), 1 at least", x.worn(0), 0);
        for (int t = 0; t < 12; t++) {
            x.fresh(0, t, 1);
        }
        e.due("worn(0), of FRESH 1", x.worn(0), 3);
        for (int t = 0; t < 7; t++) {
            x.fresh(0, t, 2);
        }
        e.due("worn(0), of FRESH 2", x.worn(0), 7);
        x.fresh(0, 11, 0);
        e.due("worn(0), without one", x.worn(0), 6);
    }

    private static void wornAsASet() {
        Edge e = Edge.promise(29, "HEADS that can have worn a HAT last: .. as a set.");
        HeadHats x = new HeadHats();
        x.hat(0);
        e.due("worn(0), no HEAD", x.worn(0), 0);
        for (int d = 0; d < 6; d++) {
            x.head(0);
            e.due("worn(0)", x.worn(0), (2 << d) - 1);
        }
        for (int d = 0; d < 6; d++) {
            x.mind(d, 0, 1);
        }
        x.mind(5, 0, 0);
        e.due("worn(0), the last alone", x.worn(0), 32).due("now(3), nothing changes", x.now(3), 1);
    }

    private static void wornBeyond() {
        Edge e = Edge.promise(29, "BEYOND.");
        HeadHats x = Due.shopOf("hat;hat;head");
        e.beyond("worn(2)", x.worn(2)).beyond("worn(-1)", x.worn(-1)).beyond("worn(MIN)", x.worn(MIN));
        e.beyond("worn(MAX)", x.worn(MAX));
        e.due("worn(1), the last", x.worn(1), 1);
    }

    private static void beforeLeast() {
        Edge e = Edge.promise(30, "The least set that, had by a HEAD, lets it TAKE just a told set from a HAT.");
        HeadHats x = Due.shopOf("straw holds 4095;brim holds 4095;feather holds 4095;hat holds 4095;felt holds 4095;straw;feather");
        for (int t = 0; t < 12; t++) {
            e.due("before(0, " + (1 << t) + ")", x.before(0, 1 << t), (1 << t) - 1);
            e.due("before(1, " + (1 << t) + ")", x.before(1, 1 << t), ALL & ~((2 << t) - 1));
            e.due("before(2, " + (1 << t) + ")", x.before(2, 1 << t), ALL - (1 << t));
        }
        for (int h = 0; h < 3; h++) {
            e.due("before(" + h + ", 0), all had", x.before(h, 0), ALL);
        }
        e.due("before(2, 4095)", x.before(2, ALL), 0).due("before(3, 4095)", x.before(3, ALL), 0);
        e.due("before(4, 4095)", x.before(4, ALL), 0);
        e.due("before(5, 0), of an empty straw", x.before(5, 0), 0).due("before(6, 0), of an empty feather", x.before(6, 0), 0);
    }

    private static void beforeOfFresh1() {
        Edge e = Edge.promise(30, "The least set that, had by a HEAD, lets it TAKE just a told set from a HAT.");
        int[] straws = {2, 5};
        for (int k : straws) {
            HeadHats x = new HeadHats();
            x.hat(k);
            x.fresh(0, 3, 1);
            e.due("before(0, 8), of KIND " + k, x.before(0, 8), 0).due("before(0, 0)", x.before(0, 0), 8);
        }
        HeadHats y = Due.shopOf("hat;feather;felt");
        for (int h = 0; h < 3; h++) {
            y.fresh(h, 11, 1);
        }
        e.due("before(0, 2048)", y.before(0, 2048), 0).due("before(0, 0)", y.before(0, 0), Due.NONE);
        e.due("before(1, 2048)", y.before(1, 2048), 0).due("before(1, 0)", y.before(1, 0), 2048);
        e.due("before(2, 0), too weak for a felt", y.before(2, 0), 0).due("before(2, 2048)", y.before(2, 2048), Due.NONE);
    }

    private static void beforeOfMitre() {
        Edge e = Edge.promise(30, "The least set that, had by a HEAD, lets it TAKE just a told set from a HAT.");
        HeadHats x = Due.shopOf("mitre;felt");
        e.due("before(0, 0), of an empty mitre", x.before(0, 0), 0).due("before(0, 1)", x.before(0, 1), Due.NONE);
        x.fresh(0, 11, 3);
        x.fresh(0, 5, 2);
        e.due("before(0, 2049)", x.before(0, 2049), 0).due("before(0, 2048)", x.before(0, 2048), Due.NONE);
        e.due("before(0, 0)", x.before(0, 0), Due.NONE);
        x.fresh(1, 11, 2);
        e.due("before(1, 0), of a felt that gives none", x.before(1, 0), 0).due("before(1, 2048)", x.before(1, 2048), Due.NONE);
    }

    private static void beforeNone() {
        Edge e = Edge.promise(30, "NONE.");
        HeadHats x = Due.shopOf("hat holds 3;straw holds 3;feather holds 3;brim holds 3");
        e.due("before(0, 1), less", x.before(0, 1), Due.NONE).due("before(0, 7), more", x.before(0, 7), Due.NONE);
        e.due("before(0, 0)", x.before(0, 0), Due.NONE);
        e.due("before(1, 3), two of a straw", x.before(1, 3), Due.NONE).due("before(1, 4), not held", x.before(1, 4), Due.NONE);
        e.due("before(2, 4)", x.before(2, 4), Due.NONE).due("before(3, 3)", x.before(3, 3), Due.NONE);
        e.due("before(0, 4095)", x.before(0, ALL), Due.NONE);
        e.due("status(3)", x.status(3), 8);
    }

    private static void beforeBeyond() {
        Edge e = Edge.promise(30, "BEYOND.");
        HeadHats x = Due.shopOf("hat;hat");
        e.beyond("before(2, 0)", x.before(2, 0)).beyond("before(-1, 0)", x.before(-1, 0));
        e.beyond("before(MIN, 0)", x.before(MIN, 0)).beyond("before(MAX, 0)", x.before(MAX, 0));
        e.beyond("before(0, 4096)", x.before(0, 4096)).beyond("before(0, -1)", x.before(0, -1));
        e.beyond("before(0, MIN)", x.before(0, MIN)).beyond("before(0, MAX)", x.before(0, MAX));
        e.beyond("before(2, 4095), no NONE", x.before(2, ALL)).due("status(3)", x.status(3), 0);
        e.due("before(1, 0), the last", x.before(1, 0), 0);
    }
}
