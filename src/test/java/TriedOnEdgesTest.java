/** Promises 13 to 23, and the terms of trying on and of weeks: each sentence that names a boundary case has a test of its own. */
public final class TriedOnEdgesTest {
    private static final int MIN = Integer.MIN_VALUE;
    private static final int MAX = Integer.MAX_VALUE;
    private static final int ALL = 4095;

    public static void main(String[] args) {
        takesOfHat();
        takesOfFelt();
        takesOfStraw();
        takesOfFeather();
        takesOfMitre();
        takesOfBrim();
        takesBeyond();
        keepsOfHatFeltMitre();
        keepsOfStrawAndBrim();
        keepsOfFeather();
        keepsBeyond();
        triesLeavesWhatIsFresher();
        triesLeavesWhatItHadAhead();
        triesTakesByWhatItHad();
        triesPennies();
        triesPenniesHeld();
        triesBeyond();
        redeemPennies();
        redeemState();
        redeemBeyond();
        blendMean();
        blendOtherStays();
        blendBeyond();
        stackJustOne();
        stackRound();
        stackBeyond();
        weeksFrom1To60();
        weeksFreshAtLeastNone();
        weeksByWeekAsItBegins();
        weeksMothsFromThree();
        weeksMothsMiddle();
        weeksMothsAfterFading();
        weeksBeyond();
        weeksState();
        nowWhat();
        nowBeyond();
        onFrom0To60();
        onChangesNothing();
        onPastLastWeek();
        onBeyond();
        goneFirst();
        goneByMoths();
        goneBeyond();
        alikeFirst();
        alikeByMoths();
        alikeBeyond();
        Due.end();
    }

    /** One hat of a kind that holds nothing yet, and one head that has a set. */
    private static HeadHats one(int kind, int set) {
        HeadHats x = new HeadHats();
        x.hat(kind);
        x.head(set);
        return x;
    }

    private static HeadHats atWeek(HeadHats x, int week) {
        for (int at = 0; at < week; at += 60) {
            x.weeks(Math.min(60, week - at));
        }
        Due.due(19, "now(0), on the way to WEEK " + week, x.now(0), week);
        return x;
    }

    private static void hold(HeadHats x, int set, int fresh) {
        for (int t = 0; t < 12; t++) {
            if ((set & (1 << t)) != 0) {
                x.fresh(0, t, fresh);
            }
        }
    }

    private static void takesOfHat() {
        Edge e = Edge.term(13, "HAT: those that it HOLDS.");
        HeadHats x = one(0, 0);
        e.due("takes(0, 0), of an empty one", x.takes(0, 0), 0);
        hold(x, 2049, 1);
        e.due("takes(0, 0), of FRESH 1", x.takes(0, 0), 2049);
        hold(x, ALL, 9);
        e.due("takes(0, 0), of all", x.takes(0, 0), ALL);
        x.mind(0, 0, ALL);
        e.due("takes(0, 0), also those that it HAS", x.takes(0, 0), ALL);
    }

    private static void takesOfFelt() {
        Edge e = Edge.term(13, "FELT: as HAT, whose FRESH is 3 or more.");
        HeadHats x = one(1, 0);
        e.due("takes(0, 0), of an empty one", x.takes(0, 0), 0);
        for (int v = 0; v <= 9; v++) {
            x.fresh(0, 11, v);
            e.due("takes(0, 0), of FRESH " + v, x.takes(0, 0), v >= 3 ? 2048 : 0);
        }
        x.mind(0, 0, ALL);
        e.due("takes(0, 0), also what it HAS", x.takes(0, 0), 2048);
    }

    private static void takesOfStraw() {
        Edge e = Edge.term(13, "STRAW: as HAT, but of these one alone: the least that the head has not (none, if it HAS all).");
        HeadHats x = one(2, 0);
        e.due("takes(0, 0), of an empty one", x.takes(0, 0), 0);
        hold(x, ALL, 1);
        for (int t = 0; t < 12; t++) {
            x.mind(0, 0, (1 << t) - 1);
            e.due("takes(0, 0), of a head that HAS those below " + t, x.takes(0, 0), 1 << t);
        }
        x.mind(0, 0, ALL);
        e.due("takes(0, 0), of one that HAS all", x.takes(0, 0), 0);
        x.fresh(0, 5, 0);
        x.mind(0, 0, ALL - 32);
        e.due("takes(0, 0), of one that HAS all that it HOLDS", x.takes(0, 0), 0);
    }

    private static void takesOfFeather() {
        Edge e = Edge.term(13, "FEATHER: as HAT, less those that the head HAS.");
        HeadHats x = one(3, 0);
        e.due("takes(0, 0), of an empty one", x.takes(0, 0), 0);
        hold(x, ALL, 1);
        e.due("takes(0, 0), of a head that HAS none", x.takes(0, 0), ALL);
        x.mind(0, 0, 2049);
        e.due("takes(0, 0), less 0 and 11", x.takes(0, 0), ALL - 2049);
        x.mind(0, 0, ALL);
        e.due("takes(0, 0), of one that HAS all", x.takes(0, 0), 0);
    }

    private static void takesOfMitre() {
        Edge e = Edge.term(13, "MITRE: as FELT, and THOUGHT 0 besides, if that isn't none.");
        HeadHats x = one(4, 0);
        e.due("takes(0, 0), of an empty one", x.takes(0, 0), 0);
        x.fresh(0, 11, 2);
        e.due("takes(0, 0), of FRESH 2", x.takes(0, 0), 0);
        x.fresh(0, 0, 2);
        e.due("takes(0, 0), of THOUGHT 0 that is FRESH 2 alone", x.takes(0, 0), 0);
        x.fresh(0, 11, 3);
        e.due("takes(0, 0), of FRESH 3", x.takes(0, 0), 2049);
        x.fresh(0, 0, 0);
        e.due("takes(0, 0), with a THOUGHT 0 that it doesn't HOLD", x.takes(0, 0), 2049);
        x.fresh(0, 11, 0);
        x.fresh(0, 0, 3);
        e.due("takes(0, 0), of THOUGHT 0 alone", x.takes(0, 0), 1);
        x.mind(0, 0, 1);
        e.due("takes(0, 0), also if it HAS it", x.takes(0, 0), 1);
    }

    private static void takesOfBrim() {
        Edge e = Edge.term(13, "BRIM: as STRAW, but the greatest.");
        HeadHats x = one(5, 0);
        e.due("takes(0, 0), of an empty one", x.takes(0, 0), 0);
        hold(x, ALL, 1);
        for (int t = 0; t < 12; t++) {
            x.mind(0, 0, ALL & ~((2 << t) - 1));
            e.due("takes(0, 0), of a head that HAS those above " + t, x.takes(0, 0), 1 << t);
        }
        x.mind(0, 0, ALL);
        e.due("takes(0, 0), of one that HAS all", x.takes(0, 0), 0);
    }

    private static void takesBeyond() {
        Edge e = Edge.promise(13, "BEYOND.");
        HeadHats x = Due.shopOf("hat;hat;hat;head;head");
        e.due("takes(2, 1), the last ones", x.takes(2, 1), 0);
        e.beyond("takes(3, 0)", x.takes(3, 0)).beyond("takes(-1, 0)", x.takes(-1, 0));
        e.beyond("takes(MIN, 0)", x.takes(MIN, 0)).beyond("takes(MAX, 0)", x.takes(MAX, 0));
        e.beyond("takes(0, 2)", x.takes(0, 2)).beyond("takes(0, -1)", x.takes(0, -1));
        e.beyond("takes(0, MIN)", x.takes(0, MIN)).beyond("takes(0, MAX)", x.takes(0, MAX));
    }

    private static void keepsOfHatFeltMitre() {
        Edge e = Edge.term(14, "HAT: 9. FELT: as HAT. .. MITRE: as FELT.");
        HeadHats x = Due.shopOf("hat;felt;mitre;head;head has 4095");
        for (int h = 0; h < 3; h++) {
            e.due("keeps(" + h + ", 0)", x.keeps(h, 0), 9).due("keeps(" + h + ", 1)", x.keeps(h, 1), 9);
        }
    }

    private static void keepsOfStrawAndBrim() {
        HeadHats x = Due.shopOf("straw;brim;head;head has 4095");
        Edge.term(14, "STRAW: half of as HAT.").due("keeps(0, 0), cut", x.keeps(0, 0), 4).due("keeps(0, 1)", x.keeps(0, 1), 4);
        Edge.term(14, "BRIM: as STRAW, and 1.").due("keeps(1, 0)", x.keeps(1, 0), 5).due("keeps(1, 1)", x.keeps(1, 1), 5);
    }

    private static void keepsOfFeather() {
        Edge e = Edge.term(14, "FEATHER: as HAT, less 1 for each THOUGHT that the head HAS (1 at least).");
        HeadHats x = one(3, 0);
        for (int many = 0; many <= 12; many++) {
            x.mind(0, 0, ALL >> (12 - many));
            e.due("keeps(0, 0), of " + many, x.keeps(0, 0), many < 8 ? 9 - many : 1);
        }
        x.mind(0, 0, 2048);
        e.due("keeps(0, 0), by how many, not by which", x.keeps(0, 0), 8);
    }

    private static void keepsBeyond() {
        Edge e = Edge.promise(14, "BEYOND.");
        HeadHats x = Due.shopOf("hat;hat;hat;head;head");
        e.due("keeps(2, 1), the last ones", x.keeps(2, 1), 9);
        e.beyond("keeps(3, 0)", x.keeps(3, 0)).beyond("keeps(-1, 0)", x.keeps(-1, 0));
        e.beyond("keeps(MIN, 0)", x.keeps(MIN, 0)).beyond("keeps(MAX, 0)", x.keeps(MAX, 0));
        e.beyond("keeps(0, 2)", x.keeps(0, 2)).beyond("keeps(0, -1)", x.keeps(0, -1));
        e.beyond("keeps(0, MIN)", x.keeps(0, MIN)).beyond("keeps(0, MAX)", x.keeps(0, MAX));
    }

    private static void triesLeavesWhatIsFresher() {
        Edge e = Edge.term(15, "then the HAT HOLDS each THOUGHT that the head HAD (ahead of it) with KEEPS, if that is more FRESH than it is");
        int[][] kept = {{0, 9}, {2, 4}, {5, 5}};
        for (int[] kind : kept) {
            for (int was = 0; was <= 9; was++) {
                HeadHats x = one(kind[0], 2048);
                x.fresh(0, 11, was);
                x.tries(0, 0);
                e.due("told(0, 11), KIND " + kind[0] + ", was " + was, x.told(0, 11), Math.max(was, kind[1]));
            }
        }
    }

    private static void triesLeavesWhatItHadAhead() {
        Edge e = Edge.term(15, "each THOUGHT that the head HAD (ahead of it)");
        HeadHats x = one(4, 0);
        x.fresh(0, 3, 3);
        e.due("tries(0, 0), of a head that HAD none", x.tries(0, 0), 9);
        e.due("told(0, 3), what it took isn't left", x.told(0, 3), 3).due("told(0, 0), nor what came besides", x.told(0, 0), 0);
        e.due("tries(0, 0), again", x.tries(0, 0), 9);
        e.due("told(0, 3), had ahead now", x.told(0, 3), 9).due("told(0, 0)", x.told(0, 0), 9);
        HeadHats y = one(3, 0);
        hold(y, 4080, 1);
        y.tries(0, 0);
        e.due("of(0, 3), nothing left", y.of(0, 3), 8);
        HeadHats z = one(3, 7);
        hold(z, 4080, 1);
        e.due("tries(0, 0)", z.tries(0, 0), 4087);
        e.due("told(0, 2), a feather's KEEPS by three that it HAD, not by eleven", z.told(0, 2), 6);
        e.due("told(0, 4)", z.told(0, 4), 1);
    }

    private static void triesTakesByWhatItHad() {
        Edge e = Edge.term(15, "it TAKES, by what it HAS; .. then the head HAS what it took, too");
        HeadHats x = one(2, 1);
        x.fresh(0, 1, 1);
        e.due("tries(0, 0), the hat's own thought, not the one it leaves", x.tries(0, 0), 3);
        e.due("about(0, 0)", x.about(0, 0), 3);
        HeadHats y = one(0, ALL);
        e.due("tries(0, 0), of an empty hat", y.tries(0, 0), ALL).due("of(0, 3), all left", y.of(0, 3), 108);
        HeadHats z = one(0, 0);
        e.due("tries(0, 0), none of none", z.tries(0, 0), 0).due("of(0, 3)", z.of(0, 3), 0);
        HeadHats w = one(1, 16);
        w.fresh(0, 2, 2);
        e.due("tries(0, 0), not what FELT doesn't give", w.tries(0, 0), 16);
    }

    private static void triesPennies() {
        Edge e = Edge.term(15, "PENNIES are 1 more, 2 if it isn't BALD.");
        HeadHats x = Due.shopOf("hat;head;head bald");
        x.tries(0, 0);
        x.tries(0, 1);
        e.due("about(0, 2)", x.about(0, 2), 2).due("about(1, 2)", x.about(1, 2), 1);
    }

    private static void triesPenniesHeld() {
        Edge e = Edge.term(15, "PENNIES (0 at first, held to 0 and 9999).");
        int[][] due = {{9999, 9999, 9999}, {9998, 9999, 9999}, {9997, 9999, 9998}, {9996, 9998, 9997}};
        for (int[] row : due) {
            HeadHats x = Due.shopOf("hat;head;head bald");
            x.mind(0, 2, row[0]);
            x.mind(1, 2, row[0]);
            x.tries(0, 0);
            x.tries(0, 1);
            e.due("about(0, 2), was " + row[0], x.about(0, 2), row[1]).due("about(1, 2), bald", x.about(1, 2), row[2]);
        }
    }

    private static void triesBeyond() {
        Edge e = Edge.promise(15, "BEYOND.");
        HeadHats x = Due.shopOf("hat holds 1;hat;head;head has 2");
        e.beyond("tries(2, 0)", x.tries(2, 0)).beyond("tries(-1, 0)", x.tries(-1, 0));
        e.beyond("tries(MIN, 0)", x.tries(MIN, 0)).beyond("tries(MAX, 0)", x.tries(MAX, 0));
        e.beyond("tries(0, 2)", x.tries(0, 2)).beyond("tries(0, -1)", x.tries(0, -1));
        e.beyond("tries(0, MIN)", x.tries(0, MIN)).beyond("tries(0, MAX)", x.tries(0, MAX));
        e.due("now(5), no PENNIES", x.now(5), 0).due("now(1)", x.now(1), 9).due("now(3)", x.now(3), 2);
        e.due("tries(1, 1), the last ones", x.tries(1, 1), 2);
    }

    private static void redeemPennies() {
        Edge e = Edge.promise(16, "A HEAD redeems a HAT: PENNIES are PLEDGE less, PLEDGE is 0: PENNIES.");
        HeadHats x = Due.shopOf("hat pledge 99;hat pledge 98;head;head");
        x.mind(1, 2, 9999);
        e.due("redeem(0, 1)", x.redeem(0, 1), 9900).due("of(0, 2)", x.of(0, 2), 0).due("about(1, 2)", x.about(1, 2), 9900);
        e.due("redeem(0, 1), of PLEDGE 0", x.redeem(0, 1), 9900).due("of(1, 2), another HAT", x.of(1, 2), 98);
        e.due("redeem(0, 0), of PLEDGE 0 with no PENNIES", x.redeem(0, 0), 0).due("about(0, 2)", x.about(0, 2), 0);
    }

    private static void redeemState() {
        Edge e = Edge.promise(16, "STATE: PENNIES are less than PLEDGE.");
        HeadHats x = Due.shopOf("hat pledge 99;head");
        x.mind(0, 2, 98);
        e.due("redeem(0, 0), of 98", x.redeem(0, 0), Due.STATE).due("of(0, 2)", x.of(0, 2), 99);
        e.due("about(0, 2)", x.about(0, 2), 98);
        x.mind(0, 2, 99);
        e.due("redeem(0, 0), of 99", x.redeem(0, 0), 0).due("of(0, 2)", x.of(0, 2), 0).due("status(4)", x.status(4), 1);
        x.pledge(0, 1);
        e.due("redeem(0, 0), of 0", x.redeem(0, 0), Due.STATE).due("of(0, 2)", x.of(0, 2), 1);
    }

    private static void redeemBeyond() {
        Edge e = Edge.promise(16, "BEYOND.");
        HeadHats x = Due.shopOf("hat;hat;head;head");
        e.beyond("redeem(2, 0)", x.redeem(2, 0)).beyond("redeem(-1, 0)", x.redeem(-1, 0));
        e.beyond("redeem(MIN, 0)", x.redeem(MIN, 0)).beyond("redeem(MAX, 0)", x.redeem(MAX, 0));
        e.beyond("redeem(0, 2)", x.redeem(0, 2)).beyond("redeem(0, -1)", x.redeem(0, -1));
        e.beyond("redeem(0, MIN)", x.redeem(0, MIN)).beyond("redeem(0, MAX)", x.redeem(0, MAX));
        e.due("count(3)", x.count(3), 10).due("status(4)", x.status(4), 0);
    }

    private static void blendMean() {
        Edge e = Edge.promise(17, "FRESH of each THOUGHT of the first HAT becomes the mean (cut) of both: what it HOLDS then.");
        int[][] due = {{0, 0, 0}, {1, 0, 0}, {0, 1, 0}, {1, 1, 1}, {2, 0, 1}, {0, 2, 1}, {9, 0, 4}, {0, 9, 4}, {9, 8, 8}, {8, 9, 8}, {9, 9, 9}, {3, 6, 4}};
        HeadHats x = Due.shopOf("hat;felt");
        int held = 0;
        for (int t = 0; t < 12; t++) {
            x.fresh(0, t, due[t][0]);
            x.fresh(1, t, due[t][1]);
            held += due[t][2] > 0 ? 1 << t : 0;
        }
        e.due("blend(0, 1)", x.blend(0, 1), held);
        for (int t = 0; t < 12; t++) {
            e.due("told(0, " + t + ")", x.told(0, t), due[t][2]).due("told(1, " + t + ")", x.told(1, t), due[t][1]);
        }
    }

    private static void blendOtherStays() {
        Edge e = Edge.promise(17, "FRESH of each THOUGHT of the first HAT becomes the mean (cut) of both: what it HOLDS then.");
        HeadHats x = Due.shopOf("brim holds 4095 pledge 7;felt pledge 8");
        e.due("blend(1, 0), the later one first", x.blend(1, 0), ALL).due("of(1, 3)", x.of(1, 3), 48);
        e.due("of(0, 3)", x.of(0, 3), 108);
        e.due("of(1, 0)", x.of(1, 0), 1).due("of(1, 2)", x.of(1, 2), 8).due("of(0, 0)", x.of(0, 0), 5);
        e.due("of(0, 2)", x.of(0, 2), 7);
    }

    private static void blendBeyond() {
        Edge e = Edge.promise(17, "BEYOND: also one and the same.");
        HeadHats x = Due.shopOf("hat holds 1;hat holds 2");
        e.beyond("blend(0, 0)", x.blend(0, 0)).beyond("blend(1, 1)", x.blend(1, 1));
        e.beyond("blend(2, 0)", x.blend(2, 0)).beyond("blend(-1, 0)", x.blend(-1, 0));
        e.beyond("blend(MIN, 0)", x.blend(MIN, 0)).beyond("blend(MAX, 0)", x.blend(MAX, 0));
        e.beyond("blend(0, 2)", x.blend(0, 2)).beyond("blend(0, -1)", x.blend(0, -1));
        e.beyond("blend(0, MIN)", x.blend(0, MIN)).beyond("blend(0, MAX)", x.blend(0, MAX)).beyond("blend(5, 5)", x.blend(5, 5));
        e.due("told(0, 0)", x.told(0, 0), 9).due("told(1, 1)", x.told(1, 1), 9);
    }

    private static void stackJustOne() {
        Edge e = Edge.term(18, "two HATS AGREE on THOUGHTS that just one of them HOLDS, whose number, and 1, .. both HOLD or neither does.");
        // Thought 4 of neither, one, the other, both; and thought 5 likewise.
        for (int here = 0; here < 4; here++) {
            for (int next = 0; next < 4; next++) {
                HeadHats x = Due.shopOf("hat;hat");
                x.fresh(0, 4, here & 1);
                x.fresh(1, 4, 9 * (here >> 1));
                x.fresh(0, 5, 9 * (next & 1));
                x.fresh(1, 5, next >> 1);
                boolean justOne = here == 1 || here == 2;
                boolean nextSame = next == 0 || next == 3;
                // Of 6 neither hat holds anything, so 5 is told if just one holds it.
                int want = (justOne && nextSame ? 16 : 0) + (nextSame ? 0 : 32);
                e.due("stack(0, 1), 4 in " + here + ", 5 in " + next, x.stack(0, 1), want).due("stack(1, 0)", x.stack(1, 0), want);
            }
        }
        HeadHats y = Due.shopOf("hat holds 4095;hat;hat holds 4095;hat holds 1365");
        e.due("stack(0, 1), all and none", y.stack(0, 1), 0).due("stack(0, 2), all and all", y.stack(0, 2), 0);
        e.due("stack(0, 3), every second one", y.stack(0, 3), 2730).due("stack(1, 3)", y.stack(1, 3), 1365);
    }

    private static void stackRound() {
        Edge e = Edge.term(18, "whose number, and 1, round by 12, both HOLD or neither does.");
        HeadHats x = Due.shopOf("hat holds 2048;hat;hat holds 2049;hat holds 1");
        e.due("stack(0, 1), of 0 neither", x.stack(0, 1), 2048).due("stack(2, 3), of 0 both", x.stack(2, 3), 2048);
        e.due("stack(2, 1), of 0 just one", x.stack(2, 1), 1).due("stack(0, 3), of 0 the other", x.stack(0, 3), 1);
    }

    private static void stackBeyond() {
        Edge e = Edge.promise(18, "BEYOND: also one and the same.");
        HeadHats x = Due.shopOf("hat;hat");
        e.beyond("stack(0, 0)", x.stack(0, 0)).beyond("stack(1, 1)", x.stack(1, 1)).beyond("stack(5, 5)", x.stack(5, 5));
        e.beyond("stack(2, 0)", x.stack(2, 0)).beyond("stack(-1, 0)", x.stack(-1, 0));
        e.beyond("stack(MIN, 0)", x.stack(MIN, 0)).beyond("stack(MAX, 0)", x.stack(MAX, 0));
        e.beyond("stack(0, 2)", x.stack(0, 2)).beyond("stack(0, -1)", x.stack(0, -1));
        e.beyond("stack(0, MIN)", x.stack(0, MIN)).beyond("stack(0, MAX)", x.stack(0, MAX));
    }

    private static void weeksFrom1To60() {
        Edge e = Edge.promise(19, "n WEEKS go (1 to 60): FRESH of all HATS together then.");
        HeadHats x = new HeadHats();
        e.due("weeks(1), of no HAT", x.weeks(1), 0).due("now(0)", x.now(0), 1).due("weeks(60)", x.weeks(60), 0);
        e.due("now(0)", x.now(0), 61);
        HeadHats y = Due.shopOf("hat holds 4095;hat holds 4095;brim holds 1;hat;hat;hat;hat;feather holds 4095");
        e.due("weeks(1), of eight HATS", y.weeks(1), 96 + 96 + 8 + 96).due("weeks(8)", y.weeks(8), 0);
        HeadHats z = Due.shopOf("felt holds 1");
        e.due("weeks(17)", z.weeks(17), 1).due("weeks(1)", z.weeks(1), 0);
    }

    private static void weeksFreshAtLeastNone() {
        Edge e = Edge.term(19, "of each HAT FRESH of each THOUGHT is FADES less (0 at least)");
        HeadHats x = Due.shopOf("straw");
        for (int v = 0; v <= 4; v++) {
            x.fresh(0, v, v);
        }
        int[] due = {0, 0, 0, 1, 2};
        e.due("weeks(1)", x.weeks(1), 3);
        for (int v = 0; v <= 4; v++) {
            e.due("told(0, " + v + "), was " + v, x.told(0, v), due[v]);
        }
        e.due("weeks(60), none below 0", x.weeks(60), 0).due("of(0, 1)", x.of(0, 1), 0);
    }

    private static void weeksByWeekAsItBegins() {
        Edge e = Edge.term(19, "by WEEK as it begins; .. WEEK is 1 more.");
        HeadHats x = Due.shopOf("felt holds 1;mitre holds 1");
        int[] felt = {9, 8, 8, 7, 7, 6, 6};
        int[] mitre = {8, 7, 7, 5, 5, 4, 3};
        for (int w = 0; w < 7; w++) {
            e.due("weeks(1) in WEEK " + w, x.weeks(1), felt[w] + mitre[w]).due("told(1, 0)", x.told(1, 0), mitre[w]);
            e.due("now(0)", x.now(0), w + 1);
        }
        HeadHats y = Due.shopOf("felt holds 1;mitre holds 1");
        e.due("weeks(7), as seven of one", y.weeks(7), 9);
    }

    private static void weeksMothsFromThree() {
        Edge e = Edge.term(19, "then with MOTHS, of each HAT that HOLDS three THOUGHTS or more, the middle one .. has FRESH 0.");
        HeadHats x = Due.shopOf("hat;hat holds 1;hat holds 2049;hat holds 2081;moths;feather holds 2081");
        x.weeks(1);
        int[] due = {0, 1, 2049, 2049, 2049};
        for (int h = 0; h < 5; h++) {
            e.due("of(" + h + ", 1)", x.of(h, 1), due[h]);
        }
        e.due("told(3, 5)", x.told(3, 5), 0).due("told(3, 11), one less only", x.told(3, 11), 8);
        HeadHats y = Due.shopOf("hat holds 2081");
        y.weeks(1);
        e.due("of(0, 1), without MOTHS", y.of(0, 1), 2081);
    }

    private static void weeksMothsMiddle() {
        Edge e = Edge.term(19, "the middle one (by number; of two the lesser)");
        int lost = 0;
        HeadHats x = Due.shopOf("hat;moths");
        for (int many = 3; many <= 12; many++) {
            hold(x, ALL, 0);
            hold(x, ALL >> (12 - many), 9);
            x.weeks(1);
            lost = 1 << ((many - 1) / 2);
            e.due("of(0, 1), of " + many, x.of(0, 1), (ALL >> (12 - many)) - lost);
        }
        HeadHats y = Due.shopOf("hat holds 2951;moths");
        y.weeks(1);
        e.due("of(0, 1), of 0 1 2 7 8 9 11 the 7", y.of(0, 1), 2951 - 128);
        HeadHats z = Due.shopOf("hat holds 2181;moths");
        z.weeks(1);
        e.due("of(0, 1), of 0 2 7 11 the 2", z.of(0, 1), 2181 - 4);
        HeadHats w = Due.shopOf("hat holds 7;moths");
        w.fresh(0, 0, 2);
        w.fresh(0, 2, 3);
        w.weeks(1);
        e.due("of(0, 1), by number, not by FRESH", w.of(0, 1), 5);
    }

    private static void weeksMothsAfterFading() {
        Edge e = Edge.term(19, "then with MOTHS");
        HeadHats x = Due.shopOf("hat holds 7;moths;hat holds 15");
        x.fresh(0, 2, 1);
        x.fresh(1, 0, 1);
        x.weeks(1);
        e.due("of(0, 1), three before it fades, two then", x.of(0, 1), 3).due("of(1, 1), the middle of those left", x.of(1, 1), 10);
        x.weeks(1);
        e.due("of(1, 1), two stay", x.of(1, 1), 10);
    }

    private static void weeksBeyond() {
        Edge e = Edge.promise(19, "BEYOND.");
        HeadHats x = Due.shopOf("hat holds 1");
        e.beyond("weeks(0)", x.weeks(0)).beyond("weeks(-1)", x.weeks(-1)).beyond("weeks(61)", x.weeks(61));
        e.beyond("weeks(MIN)", x.weeks(MIN)).beyond("weeks(MAX)", x.weeks(MAX)).due("now(0)", x.now(0), 0);
        e.due("now(1)", x.now(1), 9);
    }

    private static void weeksState() {
        Edge e = Edge.promise(19, "STATE: WEEK would be above 9999.");
        HeadHats x = atWeek(new HeadHats(), 9939);
        x.image();
        e.due("now(0)", x.now(0), 9939).due("weeks(60), to 9999", x.weeks(60), 0).due("now(0)", x.now(0), 9999);
        x.hat(0);
        x.fresh(0, 0, 9);
        e.due("weeks(1)", x.weeks(1), Due.STATE).due("weeks(60)", x.weeks(60), Due.STATE);
        e.beyond("weeks(61), asked first", x.weeks(61));
        e.beyond("weeks(0)", x.weeks(0)).due("now(0)", x.now(0), 9999).due("told(0, 0), no WEEK went", x.told(0, 0), 9);
        x.undo();
        x.weeks(1);
        e.due("now(0)", x.now(0), 9940).due("weeks(60), to 10000", x.weeks(60), Due.STATE).due("now(0)", x.now(0), 9940);
        e.due("weeks(59)", x.weeks(59), 0).due("now(0)", x.now(0), 9999).due("status(4)", x.status(4), 3);
    }

    private static void nowWhat() {
        Edge e = Edge.promise(20, "What 0 WEEK, 1 FRESH of all HATS, 2 THOUGHTS that any HAT HOLDS, 3 THOUGHTS that any HEAD HAS, 4 MOTHS, 5 PENNIES of all.");
        HeadHats x = Due.shopOf("hat;hat;hat;hat;hat;hat;hat holds 1;hat holds 2048;head;head;head;head;head has 1;head has 2048;moths");
        x.mind(0, 2, 9999);
        x.mind(5, 2, 9999);
        int[] due = {0, 18, 2049, 2049, 1, 19998};
        for (int what = 0; what < 6; what++) {
            e.due("now(" + what + ")", x.now(what), due[what]);
        }
        HeadHats y = new HeadHats();
        for (int h = 0; h < 8; h++) {
            Due.read(y, "hat holds 4095");
        }
        for (int d = 0; d < 6; d++) {
            y.head(ALL);
            y.mind(d, 2, 9999);
        }
        e.due("now(1), the most", y.now(1), 864).due("now(2)", y.now(2), ALL).due("now(3)", y.now(3), ALL);
        e.due("now(5)", y.now(5), 59994);
        HeadHats z = new HeadHats();
        for (int what = 0; what < 6; what++) {
            e.due("now(" + what + "), of nothing", z.now(what), 0);
        }
        z.hat(0);
        z.fresh(0, 11, 1);
        e.due("now(1), of FRESH 1", z.now(1), 1).due("now(2)", z.now(2), 2048);
    }

    private static void nowBeyond() {
        Edge e = Edge.promise(20, "BEYOND.");
        HeadHats x = new HeadHats();
        e.beyond("now(6)", x.now(6)).beyond("now(-1)", x.now(-1)).beyond("now(MIN)", x.now(MIN)).beyond("now(MAX)", x.now(MAX));
    }

    private static void onFrom0To60() {
        Edge e = Edge.promise(21, "THOUGHTS that a HAT HOLDS (what 0), FRESH of all of them (1) ON n WEEKS (0 to 60).");
        HeadHats x = Due.shopOf("hat;felt holds 2049");
        e.due("on(1, 0, 0)", x.on(1, 0, 0), 2049).due("on(1, 0, 1)", x.on(1, 0, 1), 18);
        e.due("on(1, 1, 1)", x.on(1, 1, 1), 18).due("on(1, 2, 1)", x.on(1, 2, 1), 16);
        e.due("on(1, 17, 0)", x.on(1, 17, 0), 2049).due("on(1, 17, 1)", x.on(1, 17, 1), 2).due("on(1, 18, 0)", x.on(1, 18, 0), 0);
        e.due("on(1, 60, 0)", x.on(1, 60, 0), 0).due("on(1, 60, 1)", x.on(1, 60, 1), 0).due("on(0, 60, 0)", x.on(0, 60, 0), 0);
        x.weeks(1);
        e.due("on(1, 1, 1), from WEEK 1", x.on(1, 1, 1), 16);
        HeadHats y = Due.shopOf("hat holds 31;moths");
        e.due("on(0, 1, 0), with MOTHS", y.on(0, 1, 0), 27).due("on(0, 2, 0)", y.on(0, 2, 0), 25);
        e.due("on(0, 3, 0)", y.on(0, 3, 0), 17);
        e.due("on(0, 4, 0)", y.on(0, 4, 0), 17).due("on(0, 3, 1)", y.on(0, 3, 1), 12);
    }

    private static void onChangesNothing() {
        Edge e = Edge.term(21, "ON: n WEEKS go on with all as it is; nothing changes.");
        HeadHats x = Due.shopOf("hat holds 7;straw holds 7;moths");
        x.on(0, 60, 0);
        x.gone(0, 0);
        x.alike(0, 1);
        x.lasting(0, 60);
        e.due("now(0)", x.now(0), 0).due("now(1)", x.now(1), 54).due("now(2)", x.now(2), 7).due("of(0, 0)", x.of(0, 0), 0);
        e.due("on(0, 1, 0), as ever", x.on(0, 1, 0), 5).due("status(-1)", x.status(-1), 0);
    }

    private static void onPastLastWeek() {
        Edge e = Edge.term(21, "ON: n WEEKS go on with all as it is");
        HeadHats x = atWeek(new HeadHats(), 9999);
        x.hat(4);
        x.fresh(0, 0, 9);
        // The weeks 9999, 10000, 10001, 10002 by 2 and by 3 tell 2, 0, 1, 1.
        int[] due = {9, 7, 7, 6, 5};
        for (int n = 0; n < 5; n++) {
            e.due("on(0, " + n + ", 1) in WEEK 9999", x.on(0, n, 1), due[n]);
        }
        e.due("on(0, 60, 1)", x.on(0, 60, 1), 0).due("now(0)", x.now(0), 9999).due("status(-1)", x.status(-1), 0);
    }

    private static void onBeyond() {
        Edge e = Edge.promise(21, "BEYOND.");
        HeadHats x = Due.shopOf("hat;hat");
        e.beyond("on(2, 0, 0)", x.on(2, 0, 0)).beyond("on(-1, 0, 0)", x.on(-1, 0, 0)).beyond("on(MIN, 0, 0)", x.on(MIN, 0, 0));
        e.beyond("on(MAX, 0, 0)", x.on(MAX, 0, 0));
        e.beyond("on(0, 61, 0)", x.on(0, 61, 0)).beyond("on(0, -1, 0)", x.on(0, -1, 0)).beyond("on(0, MIN, 0)", x.on(0, MIN, 0));
        e.beyond("on(0, MAX, 0)", x.on(0, MAX, 0));
        e.beyond("on(0, 0, 2)", x.on(0, 0, 2)).beyond("on(0, 0, -1)", x.on(0, 0, -1)).beyond("on(0, 0, MIN)", x.on(0, 0, MIN));
        e.beyond("on(0, 0, MAX)", x.on(0, 0, MAX));
    }

    private static void goneFirst() {
        Edge e = Edge.promise(22, "In how many WEEKS (0 to 60) ON a HAT doesn't HOLD a THOUGHT first.");
        HeadHats x = Due.shopOf("hat;felt;straw;feather;mitre;brim");
        int[] due = {9, 18, 5, 9, 10, 9};
        for (int h = 0; h < 6; h++) {
            e.due("gone(" + h + ", 11), not held", x.gone(h, 11), 0);
            x.fresh(h, 11, 9);
            e.due("gone(" + h + ", 11), of FRESH 9", x.gone(h, 11), due[h]).due("gone(" + h + ", 0)", x.gone(h, 0), 0);
            x.fresh(h, 11, 1);
            e.due("gone(" + h + ", 11), of FRESH 1", x.gone(h, 11), h == 1 ? 2 : 1);
        }
        e.due("now(0)", x.now(0), 0);
    }

    private static void goneByMoths() {
        Edge e = Edge.promise(22, "In how many WEEKS (0 to 60) ON a HAT doesn't HOLD a THOUGHT first.");
        HeadHats x = Due.shopOf("hat holds 31;moths");
        int[] due = {9, 2, 1, 3, 9};
        for (int t = 0; t < 5; t++) {
            e.due("gone(0, " + t + "), with MOTHS", x.gone(0, t), due[t]);
        }
        e.due("of(0, 1)", x.of(0, 1), 31);
    }

    private static void goneBeyond() {
        Edge e = Edge.promise(22, "BEYOND.");
        HeadHats x = Due.shopOf("hat;hat");
        e.beyond("gone(2, 0)", x.gone(2, 0)).beyond("gone(-1, 0)", x.gone(-1, 0)).beyond("gone(MIN, 0)", x.gone(MIN, 0));
        e.beyond("gone(MAX, 0)", x.gone(MAX, 0));
        e.beyond("gone(0, 12)", x.gone(0, 12)).beyond("gone(0, -1)", x.gone(0, -1)).beyond("gone(0, MIN)", x.gone(0, MIN));
        e.beyond("gone(0, MAX)", x.gone(0, MAX));
    }

    private static void alikeFirst() {
        Edge e = Edge.promise(23, "In how many WEEKS (0 to 60) ON two HATS HOLD the same first.");
        HeadHats x = Due.shopOf("hat;felt holds 1;hat holds 1;straw holds 3");
        x.fresh(2, 0, 1);
        e.due("alike(1, 2), now, of another FRESH", x.alike(1, 2), 0).due("alike(0, 2)", x.alike(0, 2), 1);
        e.due("alike(0, 1), the most", x.alike(0, 1), 18).due("alike(1, 0)", x.alike(1, 0), 18);
        e.due("alike(0, 3)", x.alike(0, 3), 5).due("alike(2, 3)", x.alike(2, 3), 5);
        x.fresh(0, 11, 9);
        x.turn(0, 1);
        x.weeks(1);
        e.due("alike(0, 1), from WEEK 1", x.alike(0, 1), 17).due("now(0)", x.now(0), 1);
        // Felt {0, 1} and hat {0} with thought 1 the sooner one to go: the same, though both hold something.
        HeadHats y = Due.shopOf("felt holds 3;hat holds 1");
        y.fresh(0, 1, 1);
        e.due("alike(0, 1), something of both", y.alike(0, 1), 2);
    }

    private static void alikeByMoths() {
        Edge e = Edge.promise(23, "In how many WEEKS (0 to 60) ON two HATS HOLD the same first.");
        HeadHats x = Due.shopOf("hat holds 31;hat holds 17;hat holds 21;moths");
        e.due("alike(0, 1), with MOTHS", x.alike(0, 1), 3).due("alike(1, 0)", x.alike(1, 0), 3);
        e.due("alike(1, 2)", x.alike(1, 2), 1);
        x.moths(0);
        e.due("alike(0, 1), without", x.alike(0, 1), 9);
    }

    private static void alikeBeyond() {
        Edge e = Edge.promise(23, "BEYOND: also one and the same.");
        HeadHats x = Due.shopOf("hat;hat");
        e.beyond("alike(0, 0)", x.alike(0, 0)).beyond("alike(1, 1)", x.alike(1, 1)).beyond("alike(5, 5)", x.alike(5, 5));
        e.beyond("alike(2, 0)", x.alike(2, 0)).beyond("alike(-1, 0)", x.alike(-1, 0)).beyond("alike(MIN, 0)", x.alike(MIN, 0));
        e.beyond("alike(MAX, 0)", x.alike(MAX, 0));
        e.beyond("alike(0, 2)", x.alike(0, 2)).beyond("alike(0, -1)", x.alike(0, -1)).beyond("alike(0, MIN)", x.alike(0, MIN));
        e.beyond("alike(0, MAX)", x.alike(0, MAX));
    }
}
