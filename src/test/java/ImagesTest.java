/** Promises 40 to 44: images. */
public final class ImagesTest {
    public static void main(String[] args) {
        imageAndUndo();
        latestStays();
        tear();
        count();
        status();
        findingsChangeNothing();
        Due.end();
    }

    private static void imageAndUndo() {
        HeadHats x = Due.shopOf("straw holds 5 pledge 7;head has 3 bald;moths");
        x.mind(0, 2, 40);
        x.weeks(1);
        Due.feed(x, "ha");
        x.sheet(0, 8, 2);
        Due.due(40, "image()", x.image(), 1);
        Due.feed(x, "t");
        x.write(0, 0, 5);
        x.sheet(1, 8, 3);
        x.turn(0, 1);
        x.pledge(0, 9);
        x.tries(0, 0);
        x.mind(0, 1, 0);
        x.hat(0);
        x.head(1);
        x.moths(0);
        x.weeks(5);
        Due.due(41, "undo()", x.undo(), 1);
        Due.due(41, "of(0, 0)", x.of(0, 0), 2);
        Due.due(41, "of(0, 1)", x.of(0, 1), 5);
        Due.due(41, "of(0, 2)", x.of(0, 2), 7);
        Due.due(41, "of(0, 3)", x.of(0, 3), 14);
        Due.due(41, "about(0, 0)", x.about(0, 0), 3);
        Due.due(41, "about(0, 1)", x.about(0, 1), 1);
        Due.due(41, "about(0, 2)", x.about(0, 2), 40);
        Due.due(41, "count(0)", x.count(0), 1);
        Due.due(41, "count(2)", x.count(2), 1);
        Due.due(41, "now(0)", x.now(0), 1);
        Due.due(41, "now(4)", x.now(4), 1);
        Due.due(40, "count(1), the tape not", x.count(1), 3);
        Due.due(40, "write(0, 0, 0), sheets not", x.write(0, 0, 0), 5);
        Due.due(40, "write(1, 0, 0), sheets not", x.write(1, 0, 0), 0);
        Due.due(41, "hat(3)", x.hat(3), 1);
        Due.due(41, "of(1, 3), a new one", x.of(1, 3), 0);
    }

    private static void latestStays() {
        HeadHats x = new HeadHats();
        Due.due(41, "undo()", x.undo(), Due.NONE);
        x.image();
        x.hat(0);
        x.image();
        x.hat(0);
        Due.due(41, "undo()", x.undo(), 1);
        x.hat(0);
        x.hat(0);
        Due.due(41, "undo() again", x.undo(), 1);
        x.fresh(0, 0, 3);
        Due.due(41, "undo(), not what came after it", x.undo(), 1);
        Due.due(41, "told(0, 0)", x.told(0, 0), 0);
    }

    private static void tear() {
        HeadHats x = new HeadHats();
        Due.due(42, "tear()", x.tear(), 0);
        x.image();
        x.image();
        Due.due(42, "tear()", x.tear(), 1);
        Due.due(42, "tear()", x.tear(), 0);
        x.hat(0);
        Due.due(42, "undo()", x.undo(), Due.NONE);
        Due.due(42, "count(0)", x.count(0), 1);
    }

    private static void count() {
        HeadHats x = Due.shopOf("hat pledge 99;felt;head;head;head");
        Due.feed(x, "felts");
        Due.due(43, "count(0)", x.count(0), 2);
        Due.due(43, "count(1)", x.count(1), 5);
        Due.due(43, "count(2)", x.count(2), 3);
        Due.due(43, "count(3)", x.count(3), 104);
        Due.due(43, "count(4)", x.count(4), Due.BEYOND);
        Due.due(43, "count(-1)", x.count(-1), Due.BEYOND);
    }

    private static void status() {
        HeadHats x = Due.shopOf("hat;hat;hat;hat;hat;hat;hat;hat;head");
        x.hat(9);
        x.hat(9);
        x.hat(0);
        x.as(0, 1);
        x.undo();
        x.undo();
        x.undo();
        x.redeem(0, 0);
        x.lays(0);
        x.lays(1);
        x.sheet(0, 8, -1);
        int[] due = {2, 1, 1, 3, 1, 2, 1};
        for (int i = 0; i < 7; i++) {
            Due.due(44, "status(" + i + ")", x.status(i), due[i]);
        }
        Due.due(44, "status(-1)", x.status(-1), 11);
        Due.due(44, "status(7)", x.status(7), Due.BEYOND);
        Due.due(44, "status(-2)", x.status(-2), Due.BEYOND);
        Due.due(44, "status(0), counted from then on", x.status(0), 4);
        Due.due(44, "status(-1)", x.status(-1), 13);
        x.image();
        x.hat(9);
        x.undo();
        Due.due(44, "status(0), undo takes none back", x.status(0), 5);
        Due.read(x, "x");
        Due.due(44, "status(-1), a fault is no finding", x.status(-1), 14);
    }

    private static void findingsChangeNothing() {
        HeadHats x = Due.shopOf("straw holds 9;head has 6");
        x.redeem(0, 0);
        x.fresh(0, 0, 10);
        x.mind(0, 0, 4096);
        x.tries(0, 1);
        x.blend(0, 0);
        x.weeks(61);
        x.turn(0, 6);
        Due.due(44, "of(0, 0)", x.of(0, 0), 2);
        Due.due(44, "of(0, 1)", x.of(0, 1), 9);
        Due.due(44, "of(0, 2)", x.of(0, 2), 5);
        Due.due(44, "about(0, 0)", x.about(0, 0), 6);
        Due.due(44, "about(0, 2)", x.about(0, 2), 0);
        Due.due(44, "now(0)", x.now(0), 0);
        Due.due(44, "status(-1)", x.status(-1), 7);
    }
}
