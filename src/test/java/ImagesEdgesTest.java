/** Promises 40 to 44, and what holds of every object: each sentence that names a boundary case has a test of its own. */
public final class ImagesEdgesTest {
    private static final int MIN = Integer.MIN_VALUE;
    private static final int MAX = Integer.MAX_VALUE;

    public static void main(String[] args) {
        imageKeepsSection1();
        imageKeepsNotTheTape();
        imageKeepsNotSheetsNorStatus();
        imageOfNothing();
        imageOfAFullShop();
        undoLatest();
        undoStays();
        undoKeptIsApart();
        undoNone();
        tearOnce();
        tearThenImage();
        countEach();
        countBeyond();
        statusOfEachFinding();
        statusIsEver();
        statusBeyond();
        statusIsNoFinding();
        usedFor512Calls();
        Due.end();
    }

    private static void imageKeepsSection1() {
        Edge e = Edge.promise(40, "All that section 1 tells (THE TAPE not) is kept: 1.");
        HeadHats x = Due.shopOf("mitre holds 2049 pledge 99;brim pledge 0;head has 4095 bald;head;moths");
        x.fresh(0, 5, 1);
        x.mind(0, 2, 9999);
        x.weeks(1);
        x.fresh(1, 11, 2);
        e.due("image()", x.image(), 1);
        Due.read(x, "hat;head;none");
        x.turn(0, 0);
        x.pledge(0, 1);
        x.pledge(1, 1);
        x.fresh(0, 0, 0);
        x.fresh(1, 11, 9);
        x.mind(0, 0, 0);
        x.mind(0, 1, 0);
        x.mind(0, 2, 0);
        x.mind(1, 0, 9);
        x.mind(1, 1, 1);
        x.mind(1, 2, 3);
        x.weeks(60);
        e.due("undo()", x.undo(), 2).due("count(0)", x.count(0), 2).due("count(2)", x.count(2), 2).due("count(3)", x.count(3), 99);
        e.due("now(0)", x.now(0), 1).due("now(4)", x.now(4), 1).due("of(0, 0)", x.of(0, 0), 4).due("of(1, 0)", x.of(1, 0), 5);
        e.due("of(0, 2)", x.of(0, 2), 99).due("told(0, 0)", x.told(0, 0), 8).due("told(0, 5)", x.told(0, 5), 0);
        e.due("told(0, 11)", x.told(0, 11), 8);
        e.due("told(1, 11)", x.told(1, 11), 2).due("now(1)", x.now(1), 18).due("about(0, 0)", x.about(0, 0), 4095);
        e.due("about(0, 1)", x.about(0, 1), 1);
        e.due("about(0, 2)", x.about(0, 2), 9999).due("about(1, 0)", x.about(1, 0), 0).due("about(1, 1)", x.about(1, 1), 0);
        e.due("about(1, 2)", x.about(1, 2), 0);
        e.beyond("of(2, 0)", x.of(2, 0)).beyond("about(2, 0)", x.about(2, 0));
    }

    private static void imageKeepsNotTheTape() {
        Edge e = Edge.promise(40, "(THE TAPE not)");
        HeadHats x = new HeadHats();
        Due.feed(x, "fel");
        x.image();
        Due.feed(x, "t");
        e.due("undo()", x.undo(), 0).due("count(1)", x.count(1), 4).due("shop()", x.shop(), 1).due("of(0, 0)", x.of(0, 0), 1);
        e.due("undo()", x.undo(), 0).due("count(1), empty since", x.count(1), 0).due("shop()", x.shop(), -1);
    }

    private static void imageKeepsNotSheetsNorStatus() {
        Edge e = Edge.promise(40, "All that section 1 tells (THE TAPE not) is kept: 1.");
        HeadHats x = new HeadHats();
        x.sheet(0, 16, 2);
        x.write(0, 1, 300);
        x.sheet(1, 8, 1);
        x.image();
        x.write(0, 1, 400);
        x.sheet(1, 0, 0);
        x.sheet(2, 64, 1);
        x.hat(6);
        x.undo();
        e.due("write(0, 1, 0), of section 3", x.write(0, 1, 0), 400).due("lays(1)", x.lays(1), Due.MISSING);
        e.due("lays(2)", x.lays(2), 0);
        e.due("status(0)", x.status(0), 1);
    }

    private static void imageOfNothing() {
        Edge e = Edge.promise(41, "It becomes what was kept latest (which stays): how many HATS.");
        HeadHats x = new HeadHats();
        x.image();
        Due.read(x, "hat;head;moths");
        x.weeks(9);
        e.due("undo(), to nothing", x.undo(), 0).due("count(0)", x.count(0), 0).due("count(2)", x.count(2), 0);
        for (int what = 0; what <= 5; what++) {
            e.due("now(" + what + ")", x.now(what), 0);
        }
        e.due("tear(), of nothing, but kept", x.tear(), 1);
    }

    private static void imageOfAFullShop() {
        Edge e = Edge.promise(41, "It becomes what was kept latest (which stays): how many HATS.");
        HeadHats x = new HeadHats();
        x.image();
        for (int h = 0; h < 8; h++) {
            x.hat(h % 6);
            x.fresh(h, h, h + 1);
            x.pledge(h, 10 + h);
        }
        for (int d = 0; d < 6; d++) {
            x.head(1 << d);
            x.mind(d, 2, d + 1);
        }
        x.image();
        for (int h = 0; h < 8; h++) {
            x.fresh(h, h, 0);
            x.turn(h, 5);
            x.pledge(h, 0);
        }
        for (int d = 0; d < 6; d++) {
            x.mind(d, 0, 0);
            x.mind(d, 1, 1);
            x.mind(d, 2, 0);
        }
        e.due("undo()", x.undo(), 8).due("hat(0), as full as it was", x.hat(0), Due.FULL).due("head(0)", x.head(0), Due.FULL);
        for (int h = 0; h < 8; h++) {
            e.due("of(" + h + ", 0)", x.of(h, 0), h % 6).due("of(" + h + ", 2)", x.of(h, 2), 10 + h);
            e.due("told", x.told(h, h), h + 1);
        }
        for (int d = 0; d < 6; d++) {
            e.due("about(" + d + ", 0)", x.about(d, 0), 1 << d).due("about(" + d + ", 1)", x.about(d, 1), 0);
            e.due("about(" + d + ", 2)", x.about(d, 2), d + 1);
        }
    }

    private static void undoLatest() {
        Edge e = Edge.promise(41, "It becomes what was kept latest");
        HeadHats x = new HeadHats();
        for (int h = 0; h < 8; h++) {
            x.image();
            x.hat(0);
        }
        e.due("undo()", x.undo(), 7).due("undo(), no earlier one", x.undo(), 7);
        x.image();
        x.hat(0);
        e.due("undo()", x.undo(), 7);
    }

    private static void undoStays() {
        Edge e = Edge.promise(41, "(which stays)");
        HeadHats x = Due.shopOf("hat holds 1;head");
        x.image();
        for (int i = 0; i < 5; i++) {
            x.tries(0, 0);
            x.weeks(3);
            x.hat(1);
            e.due("undo(), the " + i + "th", x.undo(), 1).due("now(0)", x.now(0), 0).due("now(1)", x.now(1), 9);
            e.due("now(3)", x.now(3), 0);
            e.due("now(5)", x.now(5), 0);
        }
        e.due("tear()", x.tear(), 1);
    }

    /** What is done after undo() comes to the shop alone, not to what is kept. */
    private static void undoKeptIsApart() {
        Edge e = Edge.promise(41, "(which stays)");
        HeadHats x = Due.shopOf("hat holds 1;head has 1");
        x.image();
        x.undo();
        x.fresh(0, 0, 4);
        x.pledge(0, 77);
        x.turn(0, 3);
        x.mind(0, 0, 8);
        x.mind(0, 1, 1);
        x.mind(0, 2, 6);
        x.moths(1);
        x.undo();
        e.due("told(0, 0)", x.told(0, 0), 9).due("of(0, 2)", x.of(0, 2), 5).due("of(0, 0)", x.of(0, 0), 0);
        e.due("about(0, 0)", x.about(0, 0), 1);
        e.due("about(0, 1)", x.about(0, 1), 0).due("about(0, 2)", x.about(0, 2), 0).due("now(4)", x.now(4), 0);
    }

    private static void undoNone() {
        Edge e = Edge.promise(41, "NONE: nothing is kept.");
        HeadHats x = Due.shopOf("hat holds 3;head has 5;moths");
        e.due("undo()", x.undo(), Due.NONE).due("undo()", x.undo(), Due.NONE).due("status(3)", x.status(3), 2);
        e.due("count(0), nothing changed", x.count(0), 1).due("now(2)", x.now(2), 3).due("now(3)", x.now(3), 5);
        e.due("now(4)", x.now(4), 1);
        x.image();
        e.due("undo()", x.undo(), 1);
        x.tear();
        e.due("undo(), torn", x.undo(), Due.NONE).due("count(0)", x.count(0), 1);
    }

    private static void tearOnce() {
        Edge e = Edge.promise(42, "Nothing is kept: 1 if something was, else 0.");
        HeadHats x = new HeadHats();
        e.due("tear()", x.tear(), 0);
        x.image();
        x.image();
        e.due("tear(), of both", x.tear(), 1).due("tear()", x.tear(), 0).due("undo()", x.undo(), Due.NONE);
        e.due("status(-1)", x.status(-1), 1);
    }

    private static void tearThenImage() {
        Edge e = Edge.promise(42, "Nothing is kept: 1 if something was, else 0.");
        HeadHats x = Due.shopOf("hat");
        x.image();
        x.tear();
        x.hat(0);
        x.image();
        x.hat(0);
        e.due("undo(), to the image made since", x.undo(), 2).due("tear()", x.tear(), 1);
    }

    private static void countEach() {
        Edge e = Edge.promise(43, "0 HATS, 1 bytes of THE TAPE, 2 HEADS, 3 PLEDGES of all together.");
        HeadHats x = new HeadHats();
        for (int what = 0; what <= 3; what++) {
            e.due("count(" + what + "), of nothing", x.count(what), 0);
        }
        for (int h = 0; h < 8; h++) {
            x.hat(0);
            x.pledge(h, 99);
        }
        for (int d = 0; d < 6; d++) {
            x.head(0);
        }
        Due.feed(x, " ".repeat(120));
        int[] due = {8, 120, 6, 792};
        for (int what = 0; what <= 3; what++) {
            e.due("count(" + what + "), the most", x.count(what), due[what]);
        }
        x.hat(0);
        x.head(0);
        x.feed(32, 1);
        for (int what = 0; what <= 3; what++) {
            e.due("count(" + what + "), none more", x.count(what), due[what]);
        }
    }

    private static void countBeyond() {
        Edge e = Edge.promise(43, "BEYOND: another what.");
        HeadHats x = new HeadHats();
        e.beyond("count(4)", x.count(4)).beyond("count(-1)", x.count(-1)).beyond("count(MIN)", x.count(MIN));
        e.beyond("count(MAX)", x.count(MAX));
        e.due("status(0)", x.status(0), 4);
    }

    private static void statusOfEachFinding() {
        Edge e = Edge.promise(44, "How many acts answered a finding ..: which -1: all, 0 to 6: BEYOND to SIZE.");
        HeadHats x = Due.shopOf("hat;head;head;head;head;head;head");
        long[] answers = {x.hat(6), x.head(0), x.as(0, 1), x.undo(), x.redeem(0, 0), x.lays(0), x.sheet(0, 8, -1)};
        for (int i = 0; i <= 6; i++) {
            e.due("finding " + i, answers[i], Due.BEYOND - i).due("status(" + i + ")", x.status(i), 1);
        }
        e.due("status(-1)", x.status(-1), 7);
        x.sheet(0, 8, -1);
        x.sheet(0, 8, -1);
        e.due("status(6)", x.status(6), 3).due("status(5)", x.status(5), 1).due("status(0)", x.status(0), 1);
        e.due("status(-1)", x.status(-1), 9);
    }

    private static void statusIsEver() {
        Edge e = Edge.promise(44, "ever (undo() takes none back)");
        HeadHats x = new HeadHats();
        x.hat(6);
        x.image();
        x.hat(6);
        x.undo();
        e.due("status(0)", x.status(0), 2).due("status(-1)", x.status(-1), 2);
        x.tear();
        x.undo();
        e.due("status(-1), and those of undo()", x.status(-1), 3).due("status(3)", x.status(3), 1);
        x.wipe();
        Due.read(x, "hat");
        e.due("status(-1)", x.status(-1), 3);
    }

    private static void statusBeyond() {
        Edge e = Edge.promise(44, "BEYOND (counted from then on): another one.");
        HeadHats x = new HeadHats();
        e.beyond("status(7)", x.status(7)).due("status(0)", x.status(0), 1).due("status(-1)", x.status(-1), 1);
        e.beyond("status(-2)", x.status(-2)).beyond("status(MIN)", x.status(MIN)).beyond("status(MAX)", x.status(MAX));
        e.due("status(0)", x.status(0), 4).due("status(-1)", x.status(-1), 4);
    }

    private static void statusIsNoFinding() {
        Edge e = Edge.promise(44, "How many acts answered a finding ever");
        HeadHats x = Due.shopOf("cat");
        e.due("status(-1), a FAULT is none", x.status(-1), 0);
        x.sheet(0, 64, 1);
        x.write(0, 0, Due.STATE);
        e.due("write(0, 0, 0), a number like one", x.write(0, 0, 0), Due.STATE).due("status(-1)", x.status(-1), 0);
        for (int which = -1; which <= 6; which++) {
            e.due("status(" + which + ")", x.status(which), 0);
        }
    }

    private static void usedFor512Calls() {
        Edge e = Edge.promise(1, "An object is used for at most 512 calls after it has been made");
        HeadHats x = new HeadHats();
        for (int i = 0; i < 511; i++) {
            x.hat(6);
        }
        e.due("status(-1), the 512th call", x.status(-1), 511);
        HeadHats y = Due.shopOf("hat;head");
        for (int i = 3; i < 511; i++) {
            y.tries(0, 0);
        }
        e.due("about(0, 2), the 512th call", y.about(0, 2), 1016);
    }
}
