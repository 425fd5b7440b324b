/** Promises 1 to 12: hats, heads. */
public final class HatsHeadsTest {
    public static void main(String[] args) {
        newObject();
        hat();
        fresh();
        of();
        told();
        pledge();
        turn();
        as();
        head();
        about();
        mind();
        moths();
        Due.end();
    }

    private static void newObject() {
        HeadHats x = new HeadHats();
        for (int what = 0; what <= 3; what++) {
            Due.due(1, "count(" + what + ")", x.count(what), 0);
        }
        for (int what = 0; what <= 5; what++) {
            Due.due(1, "now(" + what + ")", x.now(what), 0);
        }
        Due.due(1, "status(-1)", x.status(-1), 0);
        Due.due(1, "tear()", x.tear(), 0);
        Due.due(1, "undo()", x.undo(), Due.NONE);
        Due.due(1, "told(0, 0)", x.told(0, 0), Due.BEYOND);
        Due.due(1, "about(0, 0)", x.about(0, 0), Due.BEYOND);
        for (int s = 0; s <= 3; s++) {
            Due.due(1, "write(" + s + ", 0, 1)", x.write(s, 0, 1), Due.MISSING);
        }
    }

    private static void hat() {
        HeadHats x = new HeadHats();
        for (int k = 0; k <= 5; k++) {
            Due.due(2, "hat(" + k + ")", x.hat(k), k);
            Due.due(2, "of(" + k + ", 0)", x.of(k, 0), k);
            Due.due(2, "of(" + k + ", 1)", x.of(k, 1), 0);
            Due.due(2, "of(" + k + ", 2)", x.of(k, 2), 5);
        }
        Due.due(2, "hat(6)", x.hat(6), Due.BEYOND);
        Due.due(2, "hat(-1)", x.hat(-1), Due.BEYOND);
        Due.due(2, "hat(MIN)", x.hat(Integer.MIN_VALUE), Due.BEYOND);
        Due.due(2, "hat(0)", x.hat(0), 6);
        Due.due(2, "hat(0)", x.hat(0), 7);
        Due.due(2, "hat(0), a 9th", x.hat(0), Due.FULL);
        Due.due(2, "hat(6), a 9th", x.hat(6), Due.BEYOND);
        Due.due(2, "count(0)", x.count(0), 8);
    }

    private static void fresh() {
        HeadHats x = Due.shopOf("hat;hat");
        Due.due(3, "fresh(0, 0, 9)", x.fresh(0, 0, 9), 0);
        Due.due(3, "fresh(0, 0, 4)", x.fresh(0, 0, 4), 9);
        Due.due(3, "fresh(0, 11, 1)", x.fresh(0, 11, 1), 0);
        Due.due(3, "fresh(0, 0, 0)", x.fresh(0, 0, 0), 4);
        Due.due(3, "fresh(2, 0, 0)", x.fresh(2, 0, 0), Due.BEYOND);
        Due.due(3, "fresh(-1, 0, 0)", x.fresh(-1, 0, 0), Due.BEYOND);
        Due.due(3, "fresh(0, -1, 0)", x.fresh(0, -1, 0), Due.BEYOND);
        Due.due(3, "fresh(0, 12, 0)", x.fresh(0, 12, 0), Due.BEYOND);
        Due.due(3, "fresh(0, 11, -1)", x.fresh(0, 11, -1), Due.BEYOND);
        Due.due(3, "fresh(0, 11, 10)", x.fresh(0, 11, 10), Due.BEYOND);
        Due.due(3, "told(0, 11)", x.told(0, 11), 1);
        Due.due(3, "of(1, 1)", x.of(1, 1), 0);
    }

    private static void of() {
        HeadHats x = Due.shopOf("hat;felt holds 2049 pledge 99;straw;feather;mitre;brim");
        Due.due(4, "of(1, 0)", x.of(1, 0), 1);
        Due.due(4, "of(1, 1)", x.of(1, 1), 2049);
        Due.due(4, "of(1, 2)", x.of(1, 2), 99);
        Due.due(4, "of(1, 3)", x.of(1, 3), 18);
        int[][] fades = {
            {1, 0, 2, 1, 1, 1}, {1, 1, 2, 1, 1, 1}, {1, 0, 2, 1, 0, 1},
            {1, 1, 2, 1, 2, 1}, {1, 0, 2, 1, 0, 1}, {1, 1, 2, 1, 1, 1}, {1, 0, 2, 1, 1, 1}
        };
        for (int w = 0; w < fades.length; w++) {
            for (int h = 0; h < 6; h++) {
                Due.due(4, "of(" + h + ", 4) in week " + w, x.of(h, 4), fades[w][h]);
            }
            x.weeks(1);
        }
        Due.due(4, "of(0, 5)", x.of(0, 5), Due.BEYOND);
        Due.due(4, "of(0, -1)", x.of(0, -1), Due.BEYOND);
        Due.due(4, "of(6, 0)", x.of(6, 0), Due.BEYOND);
        Due.due(4, "of(-1, 0)", x.of(-1, 0), Due.BEYOND);
        Due.due(4, "status(0)", x.status(0), 4);
    }

    private static void told() {
        HeadHats x = Due.shopOf("hat holds 2049");
        Due.due(5, "told(0, 0)", x.told(0, 0), 9);
        Due.due(5, "told(0, 1)", x.told(0, 1), 0);
        Due.due(5, "told(0, 11)", x.told(0, 11), 9);
        Due.due(5, "told(0, 12)", x.told(0, 12), Due.BEYOND);
        Due.due(5, "told(0, -1)", x.told(0, -1), Due.BEYOND);
        Due.due(5, "told(1, 0)", x.told(1, 0), Due.BEYOND);
        Due.due(5, "told(-1, 0)", x.told(-1, 0), Due.BEYOND);
    }

    private static void pledge() {
        HeadHats x = Due.shopOf("hat;hat");
        Due.due(6, "pledge(0, 99)", x.pledge(0, 99), 5);
        Due.due(6, "pledge(0, 0)", x.pledge(0, 0), 99);
        Due.due(6, "pledge(0, 100)", x.pledge(0, 100), Due.BEYOND);
        Due.due(6, "pledge(0, -1)", x.pledge(0, -1), Due.BEYOND);
        Due.due(6, "pledge(2, 1)", x.pledge(2, 1), Due.BEYOND);
        Due.due(6, "pledge(-1, 1)", x.pledge(-1, 1), Due.BEYOND);
        Due.due(6, "of(0, 2)", x.of(0, 2), 0);
        Due.due(6, "of(1, 2)", x.of(1, 2), 5);
    }

    private static void turn() {
        HeadHats x = Due.shopOf("brim holds 7 pledge 8");
        Due.due(7, "turn(0, 4)", x.turn(0, 4), 5);
        Due.due(7, "turn(0, 4) again", x.turn(0, 4), 4);
        Due.due(7, "of(0, 0)", x.of(0, 0), 4);
        Due.due(7, "of(0, 1)", x.of(0, 1), 7);
        Due.due(7, "of(0, 2)", x.of(0, 2), 8);
        Due.due(7, "turn(0, 5)", x.turn(0, 5), 4);
        Due.due(7, "turn(0, 0)", x.turn(0, 0), 5);
        Due.due(7, "turn(0, 4)", x.turn(0, 4), 0);
        Due.due(7, "turn(0, 6)", x.turn(0, 6), Due.BEYOND);
        Due.due(7, "turn(0, -1)", x.turn(0, -1), Due.BEYOND);
        Due.due(7, "turn(1, 0)", x.turn(1, 0), Due.BEYOND);
        Due.due(7, "turn(-1, 0)", x.turn(-1, 0), Due.BEYOND);
        Due.due(7, "of(0, 0)", x.of(0, 0), 4);
    }

    private static void as() {
        HeadHats x = Due.shopOf("hat;felt;straw;feather;mitre;brim pledge 7");
        int[] above = {1, 3, 5, 9, 19, 37};
        for (int h = 0; h < 6; h++) {
            for (int k = 0; k < 6; k++) {
                int want = (above[h] & (1 << k)) == 0 ? Due.KIND : h == 5 ? 7 : 5;
                Due.due(8, "as(" + h + ", " + k + ")", x.as(h, k), want);
            }
        }
        Due.due(8, "as(0, 6)", x.as(0, 6), Due.BEYOND);
        Due.due(8, "as(0, -1)", x.as(0, -1), Due.BEYOND);
        Due.due(8, "as(6, 0)", x.as(6, 0), Due.BEYOND);
        Due.due(8, "as(-1, 5)", x.as(-1, 5), Due.BEYOND);
    }

    private static void head() {
        HeadHats x = new HeadHats();
        Due.due(9, "head(4096)", x.head(4096), Due.BEYOND);
        Due.due(9, "head(-1)", x.head(-1), Due.BEYOND);
        for (int d = 0; d < 6; d++) {
            Due.due(9, "head(4095)", x.head(4095 - d), d);
            Due.due(9, "about(" + d + ", 0)", x.about(d, 0), 4095 - d);
            Due.due(9, "about(" + d + ", 1)", x.about(d, 1), 0);
            Due.due(9, "about(" + d + ", 2)", x.about(d, 2), 0);
        }
        Due.due(9, "head(0), a 7th", x.head(0), Due.FULL);
        Due.due(9, "head(4096), a 7th", x.head(4096), Due.BEYOND);
        Due.due(9, "count(2)", x.count(2), 6);
    }

    private static void about() {
        HeadHats x = Due.shopOf("hat;head has 9 bald;head");
        x.tries(0, 0);
        Due.due(10, "about(0, 0)", x.about(0, 0), 9);
        Due.due(10, "about(0, 1)", x.about(0, 1), 1);
        Due.due(10, "about(0, 2)", x.about(0, 2), 1);
        Due.due(10, "about(1, 0)", x.about(1, 0), 0);
        Due.due(10, "about(0, 3)", x.about(0, 3), Due.BEYOND);
        Due.due(10, "about(0, -1)", x.about(0, -1), Due.BEYOND);
        Due.due(10, "about(2, 0)", x.about(2, 0), Due.BEYOND);
        Due.due(10, "about(-1, 0)", x.about(-1, 0), Due.BEYOND);
    }

    private static void mind() {
        HeadHats x = Due.shopOf("head has 3;head");
        Due.due(11, "mind(0, 0, 4095)", x.mind(0, 0, 4095), 3);
        Due.due(11, "mind(0, 0, 0)", x.mind(0, 0, 0), 4095);
        Due.due(11, "mind(0, 1, 1)", x.mind(0, 1, 1), 0);
        Due.due(11, "about(0, 1)", x.about(0, 1), 1);
        Due.due(11, "about(0, 2)", x.about(0, 2), 0);
        Due.due(11, "mind(0, 1, 0)", x.mind(0, 1, 0), 1);
        Due.due(11, "mind(0, 2, 9999)", x.mind(0, 2, 9999), 0);
        Due.due(11, "mind(0, 2, 7)", x.mind(0, 2, 7), 9999);
        Due.due(11, "mind(0, 0, 4096)", x.mind(0, 0, 4096), Due.BEYOND);
        Due.due(11, "mind(0, 0, -1)", x.mind(0, 0, -1), Due.BEYOND);
        Due.due(11, "mind(0, 1, 2)", x.mind(0, 1, 2), Due.BEYOND);
        Due.due(11, "mind(0, 1, -1)", x.mind(0, 1, -1), Due.BEYOND);
        Due.due(11, "mind(0, 2, 10000)", x.mind(0, 2, 10000), Due.BEYOND);
        Due.due(11, "mind(0, 2, -1)", x.mind(0, 2, -1), Due.BEYOND);
        Due.due(11, "mind(0, 3, 0)", x.mind(0, 3, 0), Due.BEYOND);
        Due.due(11, "mind(0, -1, 0)", x.mind(0, -1, 0), Due.BEYOND);
        Due.due(11, "mind(2, 0, 0)", x.mind(2, 0, 0), Due.BEYOND);
        Due.due(11, "mind(-1, 0, 0)", x.mind(-1, 0, 0), Due.BEYOND);
        Due.due(11, "about(0, 0)", x.about(0, 0), 0);
        Due.due(11, "about(0, 1)", x.about(0, 1), 0);
        Due.due(11, "about(0, 2)", x.about(0, 2), 7);
        Due.due(11, "about(1, 2)", x.about(1, 2), 0);
    }

    private static void moths() {
        HeadHats x = new HeadHats();
        Due.due(12, "moths(1)", x.moths(1), 0);
        Due.due(12, "moths(1)", x.moths(1), 1);
        Due.due(12, "moths(2)", x.moths(2), Due.BEYOND);
        Due.due(12, "moths(-1)", x.moths(-1), Due.BEYOND);
        Due.due(12, "now(4)", x.now(4), 1);
        Due.due(12, "moths(0)", x.moths(0), 1);
        Due.due(12, "now(4)", x.now(4), 0);
    }
}
