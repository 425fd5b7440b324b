/** Promises 40 to 44: images. */
public final class ImagesTest {
    public static void main(String[] args) {
        imageAndUndo();
        undoneAreGone();
        latestStays();
        tear();
        count();
        status();
        findingsChangeNothing();
        Due.end();
    }

    private static void imageAndUndo() {
        HeadHats x = Due.shopOf("straw holds 5 pledge 7;head has 3 bald;moths");
        x.mind(0, 2, 40);
        x.weeks(1);
        Due.feed(x, "ha");
        x.sheet(0, 8, 2);
        Due.due(40, "image()", x.image(), 1);
        Due.feed(x, "t");
        x.write(0, 0, 5);
        x.sheet(1, 8, 3);
        x.turn(0, 1);
        x.pledge(0, 9);
        x.tries(0, 0);
        x.mind(0, 1, 0);
        x.hat(0);
        x.head(1);
        x.moths(0);
        x.weeks(5);
        Due.due(41, "undo()", x.undo(), 1);
        Due.due(41, "of(0, 0)", x.of(0, 0), 2);
        Due.due(41, "of(0, 1)", x.of(0, 1), 5);
        Due.due(41, "of(0, 2)", x.of(0, 2), 7);
        Due.due(41, "of(0, 3)", x.of(0, 3), 14);
        Due.due(41, "about(0, 0)", x.about(0, 0), 3);
        Due.due(41, "about(0, 1)", x.about(0, 1), 1);
        Due.due(41, "about(0, 2)", x.about(0, 2), 40);
        Due.due(41, "count(0)", x.count(0), 1);
        Due.due(41, "count(2)", x.count(2), 1);
        Due.due(41, "now(0)", x.now(0), 1);
        Due.due(41, "now(4)", x.now(4), 1);
        Due.due(40, "count(1), the tape not", x.count(1), 3);
        Due.due(40, "write(0, 0, 0), sheets not", x.write(0, 0, 0), 5);
        Due.due(40, "write(1, 0, 0), sheets not", x.write(1, 0, 0), 0);
        Due.due(41, "hat(3)", x.hat(3), 1);
        Due.due(41, "of(1, 3), a new one", x.of(1, 3), 0);
    }

    /** What undo() takes away is gone for every call, and what is new in its place begins anew. */
    private static void undoneAreGone() {
        HeadHats x = Due.shopOf("hat holds 1;head has 2");
        x.image();
        Due.read(x, "mitre holds 4095 pledge 50;head has 4095 bald");
        x.mind(1, 2, 77);
        x.undo();
        Due.due(41, "best(0)", x.best(0), 0);
        Due.due(41, "row(0, 4095)", x.row(0, 4095), Due.NONE);
        Due.due(41, "rows(0, 3, 1)", x.rows(0, 3, 1), 1);
        Due.due(41, "worn(0)", x.worn(0), 0);
        Due.due(41, "now(1)", x.now(1), 9);
        Due.due(41, "now(2)", x.now(2), 1);
        Due.due(41, "now(3)", x.now(3), 2);
        Due.due(41, "now(5)", x.now(5), 0);
        Due.due(41, "count(3)", x.count(3), 5);
        Due.due(41, "of(1, 0)", x.of(1, 0), Due.BEYOND);
        Due.due(41, "about(1, 0)", x.about(1, 0), Due.BEYOND);
        Due.due(2, "hat(1)", x.hat(1), 1);
        Due.due(2, "of(1, 2)", x.of(1, 2), 5);
        Due.due(2, "of(1, 3)", x.of(1, 3), 0);
        Due.due(9, "head(1)", x.head(1), 1);
        Due.due(9, "about(1, 0)", x.about(1, 0), 1);
        Due.due(9, "about(1, 1)", x.about(1, 1), 0);
        Due.due(9, "about(1, 2)", x.about(1, 2), 0);
    }

    private static void latestStays() {
        HeadHats x = new HeadHats();
        Due.due(41, "undo()", x.undo(), Due.NONE);
        x.image();
        x.hat(0);
        x.image();
        x.hat(0);
        Due.due(41, "undo()", x.undo(), 1);
        x.hat(0);
        x.hat(0);
        Due.due(41, "undo() again", x.undo(), 1);
        x.fresh(0, 0, 3);
        Due.due(41, "undo(), not what came after it", x.undo(), 1);
        Due.due(41, "told(0, 0)", x.told(0, 0), 0);
    }

    private static void tear() {
        HeadHats x = new HeadHats();
        Due.due(42, "tear()", x.tear(), 0);
        x.image();
        x.image();
        Due.due(42, "tear()", x.tear(), 1);
        Due.due(42, "tear()", x.tear(), 0);
        x.hat(0);
        Due.due(42, "undo()", x.undo(), Due.NONE);
        Due.due(42, "count(0)", x.count(0), 1);
    }

    private static void count() {
        HeadHats x = Due.shopOf("hat pledge 99;felt;head;head;head");
        Due.feed(x, "felts");
        Due.due(43, "count(0)", x.count(0), 2);
        Due.due(43, "count(1)", x.count(1), 5);
        Due.due(43, "count(2)", x.count(2), 3);
        Due.due(43, "count(3)", x.count(3), 104);
        Due.due(43, "count(4)", x.count(4), Due.BEYOND);
        Due.due(43, "count(-1)", x.count(-1), Due.BEYOND);
    }

    private static void status() {
        HeadHats x = Due.shopOf("hat;hat;hat;hat;hat;hat;hat;hat;head");
        x.hat(9);
        x.hat(9);
        x.hat(0);
        x.as(0, 1);
        x.undo();
        x.undo();
        x.undo();
        x.redeem(0, 0);
        x.lays(0);
        x.lays(1);
        x.sheet(0, 8, -1);
        int[] due = {2, 1, 1, 3, 1, 2, 1};
        for (int i = 0; i < 7; i++) {
            Due.due(44, "status(" + i + ")", x.status(i), due[i]);
        }
        Due.due(44, "status(-1)", x.status(-1), 11);
        Due.due(44, "status(7)", x.status(7), Due.BEYOND);
        Due.due(44, "status(-2)", x.status(-2), Due.BEYOND);
        Due.due(44, "status(0), counted from then on", x.status(0), 4);
        Due.due(44, "status(-1)", x.status(-1), 13);
        x.image();
        x.hat(9);
        x.undo();
        Due.due(44, "status(0), undo takes none back", x.status(0), 5);
        Due.read(x, "x");
        Due.due(44, "status(-1), a fault is no finding", x.status(-1), 14);
    }

    private static void findingsChangeNothing() {
        HeadHats x = Due.shopOf("straw holds 9;head has 6");
        x.redeem(0, 0);
        x.fresh(0, 0, 10);
        x.mind(0, 0, 4096);
        x.tries(0, 1);
        x.blend(0, 0);
        x.weeks(61);
        x.turn(0, 6);
        Due.due(44, "of(0, 0)", x.of(0, 0), 2);
        Due.due(44, "of(0, 1)", x.of(0, 1), 9);
        Due.due(44, "of(0, 2)", x.of(0, 2), 5);
        Due.due(44, "about(0, 0)", x.about(0, 0), 6);
        Due.due(44, "about(0, 2)", x.about(0, 2), 0);
        Due.due(44, "now(0)", x.now(0), 0);
        Due.due(44, "status(-1)", x.status(-1), 7);
    }
}
