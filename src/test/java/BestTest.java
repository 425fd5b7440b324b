/** Promises 24 to 30: what is best. */
public final class BestTest {
    public static void main(String[] args) {
        best();
        row();
        rowByOrder();
        rows();
        kind();
        lasting();
        worn();
        before();
        Due.end();
    }

    private static void best() {
        HeadHats x = Due.shopOf("head;head has 30");
        Due.due(24, "best(0)", x.best(0), Due.NONE);
        Due.due(24, "best(2)", x.best(2), Due.BEYOND);
        Due.read(x, "straw holds 7;hat holds 6;feather holds 5;hat holds 6");
        Due.due(24, "best(0), of several the least", x.best(0), 1);
        Due.due(24, "best(1), by what it has then", x.best(1), 0);
        x.mind(1, 0, 6);
        Due.due(24, "best(1)", x.best(1), 0);
        x.mind(1, 0, 4095);
        Due.due(24, "best(1), no gain", x.best(1), 0);
        x.fresh(3, 11, 1);
        Due.due(24, "best(0)", x.best(0), 3);
        Due.due(24, "best(2)", x.best(2), Due.BEYOND);
        Due.due(24, "best(-1)", x.best(-1), Due.BEYOND);
        Due.due(24, "about(0, 0)", x.about(0, 0), 0);
    }

    private static void row() {
        HeadHats x = Due.shopOf("hat holds 1;hat holds 2;hat holds 4;hat holds 3;hat holds 8;head;head has 3");
        Due.due(25, "row(0, 0)", x.row(0, 0), 0);
        Due.due(25, "row(1, 3)", x.row(1, 3), 0);
        Due.due(25, "row(0, 1)", x.row(0, 1), 100);
        Due.due(25, "row(0, 3), of fewest", x.row(0, 3), 400);
        Due.due(25, "row(0, 7)", x.row(0, 7), 340);
        Due.due(25, "row(0, 15)", x.row(0, 15), 345);
        Due.due(25, "row(0, 14)", x.row(0, 14), 235);
        Due.due(25, "row(1, 15)", x.row(1, 15), 350);
        Due.due(25, "row(0, 16)", x.row(0, 16), Due.NONE);
        Due.due(25, "row(0, 4096)", x.row(0, 4096), Due.BEYOND);
        Due.due(25, "row(0, -1)", x.row(0, -1), Due.BEYOND);
        Due.due(25, "row(2, 0)", x.row(2, 0), Due.BEYOND);
        Due.due(25, "row(-1, 0)", x.row(-1, 0), Due.BEYOND);
        Due.due(25, "of(0, 1), unchanged", x.of(0, 1), 1);
        Due.due(25, "about(0, 0), unchanged", x.about(0, 0), 0);
        Due.due(25, "about(0, 2), unchanged", x.about(0, 2), 0);
        HeadHats y = Due.shopOf("hat holds 1;hat holds 2;hat holds 4;hat holds 8;head");
        Due.due(25, "row(0, 15), four are too many", y.row(0, 15), Due.NONE);
        HeadHats z = Due.shopOf("straw holds 3;head");
        Due.due(25, "row(0, 3), none twice", z.row(0, 3), Due.NONE);
    }

    private static void rowByOrder() {
        HeadHats x = Due.shopOf("hat holds 1;straw holds 3;head");
        Due.due(25, "row(0, 2), the straw's second thought", x.row(0, 2), 120);
        HeadHats y = Due.shopOf("straw holds 3;hat holds 1;head");
        Due.due(25, "row(0, 2), the hat ahead of the straw", y.row(0, 2), 210);
    }

    private static void rows() {
        HeadHats x = Due.shopOf("hat holds 1;straw holds 3;head;head has 4095");
        Due.due(26, "rows(0, 0, 0)", x.rows(0, 0, 0), 1);
        Due.due(26, "rows(0, 1, 0)", x.rows(0, 1, 0), 0);
        Due.due(26, "rows(0, 1, 1)", x.rows(0, 1, 1), 2);
        Due.due(26, "rows(0, 3, 2)", x.rows(0, 3, 2), 1);
        Due.due(26, "rows(0, 1, 2)", x.rows(0, 1, 2), 1);
        Due.due(26, "rows(0, 3, 3), no third", x.rows(0, 3, 3), 0);
        Due.due(26, "rows(1, 4095, 2)", x.rows(1, 4095, 2), 2);
        Due.due(26, "rows(1, 1, 2), just a set", x.rows(1, 1, 2), 0);
        for (int i = 0; i < 6; i++) {
            x.hat(0);
        }
        Due.due(26, "rows(1, 4095, 3)", x.rows(1, 4095, 3), 336);
        Due.due(26, "rows(1, 4095, 1)", x.rows(1, 4095, 1), 8);
        Due.due(26, "rows(0, 0, 4)", x.rows(0, 0, 4), Due.BEYOND);
        Due.due(26, "rows(0, 0, -1)", x.rows(0, 0, -1), Due.BEYOND);
        Due.due(26, "rows(0, 4096, 0)", x.rows(0, 4096, 0), Due.BEYOND);
        Due.due(26, "rows(0, -1, 0)", x.rows(0, -1, 0), Due.BEYOND);
        Due.due(26, "rows(2, 0, 0)", x.rows(2, 0, 0), Due.BEYOND);
        Due.due(26, "rows(-1, 0, 0)", x.rows(-1, 0, 0), Due.BEYOND);
    }

    private static void kind() {
        HeadHats x = Due.shopOf("brim holds 6;hat holds 7;mitre;head");
        Due.due(27, "kind(0, 0)", x.kind(0, 0), 4);
        Due.due(27, "kind(1, 0), holds 0 itself", x.kind(1, 0), 0);
        Due.due(27, "kind(2, 0)", x.kind(2, 0), 0);
        x.fresh(0, 2, 2);
        Due.due(27, "kind(0, 0), one firm", x.kind(0, 0), 0);
        Due.due(27, "of(0, 0), unchanged", x.of(0, 0), 5);
        Due.due(27, "kind(3, 0)", x.kind(3, 0), Due.BEYOND);
        Due.due(27, "kind(-1, 0)", x.kind(-1, 0), Due.BEYOND);
        Due.due(27, "kind(0, 1)", x.kind(0, 1), Due.BEYOND);
        Due.due(27, "kind(0, -1)", x.kind(0, -1), Due.BEYOND);
    }

    private static void lasting() {
        HeadHats x = Due.shopOf("straw holds 7");
        Due.due(28, "lasting(0, 0)", x.lasting(0, 0), 0);
        Due.due(28, "lasting(0, 1)", x.lasting(0, 1), 1);
        Due.due(28, "lasting(0, 17)", x.lasting(0, 17), 1);
        Due.due(28, "lasting(0, 18)", x.lasting(0, 18), 0);
        x.weeks(1);
        Due.due(28, "lasting(0, 1), from week 1", x.lasting(0, 1), 0);
        x.weeks(1);
        x.fresh(0, 1, 4);
        Due.due(28, "lasting(0, 1), from week 2, felt before mitre", x.lasting(0, 1), 1);
        Due.due(28, "of(0, 0), unchanged", x.of(0, 0), 2);
        Due.due(28, "lasting(0, 61)", x.lasting(0, 61), Due.BEYOND);
        Due.due(28, "lasting(0, -1)", x.lasting(0, -1), Due.BEYOND);
        Due.due(28, "lasting(1, 0)", x.lasting(1, 0), Due.BEYOND);
        Due.due(28, "lasting(-1, 0)", x.lasting(-1, 0), Due.BEYOND);
    }

    private static void worn() {
        HeadHats x = Due.shopOf("hat;straw;feather;head;head has 1;head has 3;head has 7;head has 8");
        for (int h = 0; h < 3; h++) {
            x.fresh(h, 0, 9);
            x.fresh(h, 1, 7);
            x.fresh(h, 2, 4);
        }
        Due.due(29, "worn(0)", x.worn(0), 1 + 2);
        Due.due(29, "worn(1), 4 is enough", x.worn(1), 1 + 2 + 4 + 8);
        Due.due(29, "worn(2), less for each thought", x.worn(2), 1 + 2 + 4);
        x.fresh(1, 2, 3);
        Due.due(29, "worn(1)", x.worn(1), 1 + 2 + 4);
        x.fresh(2, 0, 7);
        Due.due(29, "worn(2)", x.worn(2), 1 + 4);
        x.mind(0, 0, 2048);
        Due.due(29, "worn(2), not the first head", x.worn(2), 4);
        Due.due(29, "worn(3)", x.worn(3), Due.BEYOND);
        Due.due(29, "worn(-1)", x.worn(-1), Due.BEYOND);
    }

    private static void before() {
        HeadHats x = Due.shopOf("hat holds 22;felt holds 22;straw holds 22;feather holds 22;mitre holds 22;brim holds 22");
        Due.due(30, "before(0, 22)", x.before(0, 22), 0);
        Due.due(30, "before(0, 2)", x.before(0, 2), Due.NONE);
        Due.due(30, "before(1, 22)", x.before(1, 22), 0);
        Due.due(30, "before(2, 2)", x.before(2, 2), 0);
        Due.due(30, "before(2, 4)", x.before(2, 4), 2);
        Due.due(30, "before(2, 16)", x.before(2, 16), 6);
        Due.due(30, "before(2, 0)", x.before(2, 0), 22);
        Due.due(30, "before(2, 6)", x.before(2, 6), Due.NONE);
        Due.due(30, "before(3, 18)", x.before(3, 18), 4);
        Due.due(30, "before(3, 0)", x.before(3, 0), 22);
        Due.due(30, "before(3, 1)", x.before(3, 1), Due.NONE);
        Due.due(30, "before(4, 23)", x.before(4, 23), 0);
        Due.due(30, "before(4, 22)", x.before(4, 22), Due.NONE);
        Due.due(30, "before(5, 2)", x.before(5, 2), 20);
        Due.due(30, "before(5, 16)", x.before(5, 16), 0);
        x.fresh(1, 4, 2);
        Due.due(30, "before(1, 6)", x.before(1, 6), 0);
        Due.read(x, "straw holds 4095");
        Due.due(30, "before(6, 0)", x.before(6, 0), 4095);
        Due.due(30, "before(0, 4096)", x.before(0, 4096), Due.BEYOND);
        Due.due(30, "before(0, -1)", x.before(0, -1), Due.BEYOND);
        Due.due(30, "before(7, 0)", x.before(7, 0), Due.BEYOND);
        Due.due(30, "before(-1, 0)", x.before(-1, 0), Due.BEYOND);
    }
}
