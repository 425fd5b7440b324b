/** Promises 13 to 23: tried on, weeks. */
public final class TriedOnTest {
    public static void main(String[] args) {
        takes();
        keeps();
        tries();
        triesLeavesByWhatWasHad();
        redeem();
        blend();
        stack();
        weeks();
        mothsInWeeks();
        now();
        on();
        gone();
        alike();
        Due.end();
    }

    /** Each kind holds 1 (fresh 9), 4 (fresh 3), 6 (fresh 2), 9 (fresh 1). */
    private static HeadHats sixKinds() {
        HeadHats x = Due.shopOf("hat;felt;straw;feather;mitre;brim");
        for (int h = 0; h < 6; h++) {
            x.fresh(h, 1, 9);
            x.fresh(h, 4, 3);
            x.fresh(h, 6, 2);
            x.fresh(h, 9, 1);
        }
        return x;
    }

    private static void takes() {
        HeadHats x = sixKinds();
        x.head(0);
        x.head(2 + 512 + 1024);
        x.head(4095);
        x.head(2 + 16 + 64);
        int held = 2 + 16 + 64 + 512;
        int[][] due = {
            {held, held, held, held},
            {18, 18, 18, 18},
            {2, 16, 0, 512},
            {held, 80, 0, 512},
            {19, 19, 19, 19},
            {512, 64, 0, 512}
        };
        for (int h = 0; h < 6; h++) {
            for (int d = 0; d < 4; d++) {
                Due.due(13, "takes(" + h + ", " + d + ")", x.takes(h, d), due[h][d]);
            }
        }
        x.fresh(4, 1, 2);
        Due.due(13, "takes(4, 0) of one firm", x.takes(4, 0), 17);
        x.fresh(4, 4, 2);
        Due.due(13, "takes(4, 0) of none firm", x.takes(4, 0), 0);
        x.fresh(5, 0, 1);
        x.fresh(5, 11, 1);
        Due.due(13, "takes(5, 0), the last thought", x.takes(5, 0), 2048);
        x.mind(0, 0, 4094);
        Due.due(13, "takes(5, 0), the first thought", x.takes(5, 0), 1);
        Due.due(13, "takes(6, 0)", x.takes(6, 0), Due.BEYOND);
        Due.due(13, "takes(-1, 0)", x.takes(-1, 0), Due.BEYOND);
        Due.due(13, "takes(0, 4)", x.takes(0, 4), Due.BEYOND);
        Due.due(13, "takes(0, -1)", x.takes(0, -1), Due.BEYOND);
    }

    private static void keeps() {
        HeadHats x = sixKinds();
        x.head(0);
        x.head(7);
        x.head(255);
        x.head(511);
        x.head(4095);
        int[][] due = {
            {9, 9, 9, 9, 9}, {9, 9, 9, 9, 9}, {4, 4, 4, 4, 4}, {9, 6, 1, 1, 1}, {9, 9, 9, 9, 9}, {5, 5, 5, 5, 5}
        };
        for (int h = 0; h < 6; h++) {
            for (int d = 0; d < 5; d++) {
                Due.due(14, "keeps(" + h + ", " + d + ")", x.keeps(h, d), due[h][d]);
            }
        }
        Due.due(14, "keeps(6, 0)", x.keeps(6, 0), Due.BEYOND);
        Due.due(14, "keeps(-1, 0)", x.keeps(-1, 0), Due.BEYOND);
        Due.due(14, "keeps(0, 5)", x.keeps(0, 5), Due.BEYOND);
        Due.due(14, "keeps(0, -1)", x.keeps(0, -1), Due.BEYOND);
    }

    private static void tries() {
        HeadHats x = sixKinds();
        x.head(2 + 16 + 1);
        Due.due(15, "tries(5, 0)", x.tries(5, 0), 512 + 2 + 16 + 1);
        Due.due(15, "told(5, 1), fresher", x.told(5, 1), 9);
        Due.due(15, "told(5, 4)", x.told(5, 4), 5);
        Due.due(15, "told(5, 0)", x.told(5, 0), 5);
        Due.due(15, "told(5, 9), taken only", x.told(5, 9), 1);
        Due.due(15, "about(0, 2)", x.about(0, 2), 2);
        x.mind(0, 1, 1);
        x.tries(0, 0);
        Due.due(15, "about(0, 2), bald", x.about(0, 2), 3);
        x.mind(0, 2, 9999);
        x.tries(0, 0);
        Due.due(15, "about(0, 2), held", x.about(0, 2), 9999);
        x.mind(0, 1, 0);
        x.mind(0, 2, 9998);
        x.tries(0, 0);
        Due.due(15, "about(0, 2), held", x.about(0, 2), 9999);
        Due.due(15, "tries(6, 0)", x.tries(6, 0), Due.BEYOND);
        Due.due(15, "tries(-1, 0)", x.tries(-1, 0), Due.BEYOND);
        Due.due(15, "tries(0, 1)", x.tries(0, 1), Due.BEYOND);
        Due.due(15, "tries(0, -1)", x.tries(0, -1), Due.BEYOND);
    }

    private static void triesLeavesByWhatWasHad() {
        HeadHats x = Due.shopOf("feather holds 240;head has 3");
        Due.due(15, "tries(0, 0)", x.tries(0, 0), 243);
        Due.due(15, "told(0, 0), of a head that had two", x.told(0, 0), 7);
        Due.due(15, "told(0, 1)", x.told(0, 1), 7);
        Due.due(15, "told(0, 4)", x.told(0, 4), 9);
    }

    private static void redeem() {
        HeadHats x = Due.shopOf("hat pledge 10;hat pledge 0;head;head");
        Due.due(16, "redeem(1, 0) of no pledge", x.redeem(1, 0), 0);
        x.mind(0, 2, 9);
        Due.due(16, "redeem(0, 0)", x.redeem(0, 0), Due.STATE);
        Due.due(16, "of(0, 2)", x.of(0, 2), 10);
        Due.due(16, "about(0, 2)", x.about(0, 2), 9);
        x.mind(0, 2, 10);
        Due.due(16, "redeem(0, 0)", x.redeem(0, 0), 0);
        Due.due(16, "of(0, 2)", x.of(0, 2), 0);
        Due.due(16, "about(0, 2)", x.about(0, 2), 0);
        Due.due(16, "redeem(2, 0)", x.redeem(2, 0), Due.BEYOND);
        Due.due(16, "redeem(-1, 0)", x.redeem(-1, 0), Due.BEYOND);
        Due.due(16, "redeem(0, 2)", x.redeem(0, 2), Due.BEYOND);
        Due.due(16, "redeem(0, -1)", x.redeem(0, -1), Due.BEYOND);
    }

    private static void blend() {
        HeadHats x = Due.shopOf("hat;hat;hat");
        x.fresh(0, 0, 9);
        x.fresh(1, 0, 4);
        x.fresh(1, 5, 1);
        x.fresh(1, 7, 2);
        Due.due(17, "blend(0, 1)", x.blend(0, 1), 129);
        Due.due(17, "told(0, 0)", x.told(0, 0), 6);
        Due.due(17, "told(0, 5)", x.told(0, 5), 0);
        Due.due(17, "told(0, 7)", x.told(0, 7), 1);
        Due.due(17, "told(1, 0)", x.told(1, 0), 4);
        Due.due(17, "blend(1, 1)", x.blend(1, 1), Due.BEYOND);
        Due.due(17, "blend(3, 1)", x.blend(3, 1), Due.BEYOND);
        Due.due(17, "blend(-1, 1)", x.blend(-1, 1), Due.BEYOND);
        Due.due(17, "blend(1, 3)", x.blend(1, 3), Due.BEYOND);
        Due.due(17, "blend(1, -1)", x.blend(1, -1), Due.BEYOND);
        Due.due(17, "told(1, 5)", x.told(1, 5), 1);
    }

    private static void stack() {
        HeadHats x = Due.shopOf("hat holds 6;hat holds 12;hat;hat holds 2049;hat holds 4095;hat holds 1");
        Due.due(18, "stack(0, 1): 1 and 3, both hold 2", x.stack(0, 1), 2 + 8);
        Due.due(18, "stack(1, 0)", x.stack(1, 0), 10);
        Due.due(18, "stack(0, 2): 2 alone, 1 has 2 behind it", x.stack(0, 2), 4);
        Due.due(18, "stack(2, 3): the round", x.stack(2, 3), 1);
        Due.due(18, "stack(3, 5): 11, both hold 0", x.stack(3, 5), 2048);
        Due.due(18, "stack(2, 4)", x.stack(2, 4), 0);
        Due.due(18, "stack(0, 0)", x.stack(0, 0), Due.BEYOND);
        Due.due(18, "stack(6, 0)", x.stack(6, 0), Due.BEYOND);
        Due.due(18, "stack(-1, 0)", x.stack(-1, 0), Due.BEYOND);
        Due.due(18, "stack(0, 6)", x.stack(0, 6), Due.BEYOND);
        Due.due(18, "stack(0, -1)", x.stack(0, -1), Due.BEYOND);
    }

    private static void weeks() {
        HeadHats x = Due.shopOf("hat holds 1;felt holds 1;straw holds 1;feather holds 1;mitre holds 1;brim holds 1");
        int[] mitre = {8, 7, 7, 5, 5, 4, 3};
        for (int w = 0; w < mitre.length; w++) {
            int sum = 9 - w - 1 + 9 - (w + 1) / 2 + Math.max(0, 9 - 2 * w - 2) + 9 - w - 1 + mitre[w] + 9 - w - 1;
            Due.due(19, "weeks(1), the " + w + "th", x.weeks(1), sum);
            Due.due(19, "told(4, 0)", x.told(4, 0), mitre[w]);
        }
        Due.due(19, "told(2, 0)", x.told(2, 0), 0);
        Due.due(19, "weeks(0)", x.weeks(0), Due.BEYOND);
        Due.due(19, "weeks(-1)", x.weeks(-1), Due.BEYOND);
        Due.due(19, "weeks(61)", x.weeks(61), Due.BEYOND);
        Due.due(19, "weeks(60)", x.weeks(60), 0);
        Due.due(19, "now(0)", x.now(0), 67);
        for (int i = 0; i < 165; i++) {
            x.weeks(60);
        }
        Due.due(19, "now(0)", x.now(0), 9967);
        Due.due(19, "weeks(33)", x.weeks(33), Due.STATE);
        Due.due(19, "weeks(61) near the end", x.weeks(61), Due.BEYOND);
        Due.due(19, "now(0)", x.now(0), 9967);
        Due.due(19, "weeks(32)", x.weeks(32), 0);
        Due.due(19, "now(0)", x.now(0), 9999);
        Due.due(19, "weeks(1)", x.weeks(1), Due.STATE);
        x.fresh(1, 0, 3);
        Due.due(21, "on(1, 4, 1) beyond the last week", x.on(1, 4, 1), 1);
    }

    private static void mothsInWeeks() {
        HeadHats x = Due.shopOf("hat holds 4095;hat holds 7;hat holds 3;hat holds 7;moths");
        x.fresh(3, 0, 1);
        x.weeks(1);
        Due.due(19, "of(0, 1), of twelve the 6th", x.of(0, 1), 4095 - 32);
        Due.due(19, "of(1, 1), of three the middle", x.of(1, 1), 5);
        Due.due(19, "of(2, 1), of two none", x.of(2, 1), 3);
        Due.due(19, "of(3, 1), faded to two first", x.of(3, 1), 6);
        x.weeks(1);
        Due.due(19, "of(0, 1), of eleven the 6th", x.of(0, 1), 4095 - 32 - 64);
        HeadHats y = Due.shopOf("hat;moths");
        for (int t = 2; t <= 8; t++) {
            y.fresh(0, t, 2);
        }
        y.weeks(1);
        Due.due(19, "of(0, 1), all of fresh 1", y.of(0, 1), 508 - 32);
    }

    private static void now() {
        HeadHats x = Due.shopOf("hat holds 5;hat holds 6;head has 40;head has 24;moths");
        x.mind(0, 2, 9999);
        x.mind(1, 2, 9999);
        int[] due = {0, 36, 7, 56, 1, 19998};
        for (int what = 0; what < 6; what++) {
            Due.due(20, "now(" + what + ")", x.now(what), due[what]);
        }
        x.weeks(2);
        Due.due(20, "now(0)", x.now(0), 2);
        Due.due(20, "now(1)", x.now(1), 28);
        Due.due(20, "now(6)", x.now(6), Due.BEYOND);
        Due.due(20, "now(-1)", x.now(-1), Due.BEYOND);
    }

    private static void on() {
        HeadHats x = Due.shopOf("mitre holds 3;hat holds 31;moths");
        Due.due(21, "on(0, 0, 0)", x.on(0, 0, 0), 3);
        Due.due(21, "on(0, 0, 1)", x.on(0, 0, 1), 18);
        Due.due(21, "on(0, 1, 1)", x.on(0, 1, 1), 16);
        Due.due(21, "on(0, 3, 1)", x.on(0, 3, 1), 14);
        Due.due(21, "on(1, 3, 0)", x.on(1, 3, 0), 17);
        Due.due(21, "on(0, 60, 0)", x.on(0, 60, 0), 0);
        x.weeks(1);
        Due.due(21, "on(0, 2, 1) from week 1", x.on(0, 2, 1), 14);
        Due.due(21, "of(0, 3)", x.of(0, 3), 16);
        Due.due(21, "now(0)", x.now(0), 1);
        Due.due(21, "on(0, 61, 0)", x.on(0, 61, 0), Due.BEYOND);
        Due.due(21, "on(0, -1, 0)", x.on(0, -1, 0), Due.BEYOND);
        Due.due(21, "on(0, 0, 2)", x.on(0, 0, 2), Due.BEYOND);
        Due.due(21, "on(0, 0, -1)", x.on(0, 0, -1), Due.BEYOND);
        Due.due(21, "on(2, 0, 0)", x.on(2, 0, 0), Due.BEYOND);
        Due.due(21, "on(-1, 0, 0)", x.on(-1, 0, 0), Due.BEYOND);
    }

    private static void gone() {
        HeadHats x = Due.shopOf("felt holds 1;straw holds 1;hat holds 7");
        Due.due(22, "gone(0, 0)", x.gone(0, 0), 18);
        Due.due(22, "gone(0, 1)", x.gone(0, 1), 0);
        Due.due(22, "gone(1, 0)", x.gone(1, 0), 5);
        Due.due(22, "gone(2, 1)", x.gone(2, 1), 9);
        x.moths(1);
        Due.due(22, "gone(2, 1), by moths", x.gone(2, 1), 1);
        Due.due(22, "gone(2, 0)", x.gone(2, 0), 9);
        x.weeks(1);
        Due.due(22, "gone(0, 0), from week 1", x.gone(0, 0), 17);
        Due.due(22, "gone(0, 12)", x.gone(0, 12), Due.BEYOND);
        Due.due(22, "gone(0, -1)", x.gone(0, -1), Due.BEYOND);
        Due.due(22, "gone(3, 0)", x.gone(3, 0), Due.BEYOND);
        Due.due(22, "gone(-1, 0)", x.gone(-1, 0), Due.BEYOND);
    }

    private static void alike() {
        HeadHats x = Due.shopOf("felt holds 3;straw holds 1;hat holds 3;hat holds 7");
        Due.due(23, "alike(0, 2)", x.alike(0, 2), 0);
        Due.due(23, "alike(0, 1)", x.alike(0, 1), 18);
        Due.due(23, "alike(1, 0)", x.alike(1, 0), 18);
        Due.due(23, "alike(1, 2)", x.alike(1, 2), 9);
        x.moths(1);
        x.fresh(2, 1, 0);
        x.fresh(2, 2, 9);
        Due.due(23, "alike(3, 2), by moths", x.alike(3, 2), 1);
        Due.due(23, "alike(2, 3)", x.alike(2, 3), 1);
        Due.due(23, "of(3, 1)", x.of(3, 1), 7);
        Due.due(23, "alike(0, 0)", x.alike(0, 0), Due.BEYOND);
        Due.due(23, "alike(4, 0)", x.alike(4, 0), Due.BEYOND);
        Due.due(23, "alike(-1, 0)", x.alike(-1, 0), Due.BEYOND);
        Due.due(23, "alike(0, 4)", x.alike(0, 4), Due.BEYOND);
        Due.due(23, "alike(0, -1)", x.alike(0, -1), Due.BEYOND);
    }
}
