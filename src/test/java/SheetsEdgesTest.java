/** Promises 34 to 39, and the term of sheets: each sentence that names a boundary case has a test of its own. */
public final class SheetsEdgesTest {
    private static final int MIN = Integer.MIN_VALUE;
    private static final int MAX = Integer.MAX_VALUE;

    public static void main(String[] args) {
        missingAtFirst();
        sheetAllNought();
        sheetOfNoBits();
        sheetBeyond();
        sheetSize();
        sheetAbove40();
        sheetRefusedStays();
        writeLowest8Bits();
        writeLowest16Bits();
        write64Bits();
        writeWhatItWas();
        writeNoSuchSheet();
        writeMissing();
        writeNoSuchNumber();
        writeFindingsInLongs();
        copyAll();
        copyNone();
        copyAsTheyAllWere();
        copyNoSuchSheet();
        copyMissing();
        copyKind();
        copyNotSoMany();
        copyBelowNought();
        laysFrom0To99();
        laysForNone();
        laysOfBits();
        laysBeyondMissing();
        bookAsManyAsItHas();
        bookOnWeeks();
        bookFindings();
        readOfNone();
        readJustSo();
        readFresh9();
        readKinds();
        readLongs();
        readChangesNothing();
        readFindings();
        Due.end();
    }

    /** Sheets 0 of 8, 1 of 16 and 2 of 64 bits; sheet 3 is missing. */
    private static HeadHats threeSheets(int n) {
        HeadHats x = new HeadHats();
        x.sheet(0, 8, n);
        x.sheet(1, 16, n);
        x.sheet(2, 64, n);
        return x;
    }

    private static void missingAtFirst() {
        Edge e = Edge.term(34, "SHEETS 0 to 3 are .. MISSING (at first).");
        HeadHats x = Due.shopOf("hat");
        for (int s = 0; s <= 3; s++) {
            e.due("write(" + s + ", 0, 0)", x.write(s, 0, 0), Due.MISSING).due("lays(" + s + ")", x.lays(s), Due.MISSING);
            e.due("book(" + s + ", 0)", x.book(s, 0), Due.MISSING).due("read(" + s + ", 0)", x.read(s, 0), Due.MISSING);
            e.due("copy(" + s + ", 0, " + s + ", 0, 0)", x.copy(s, 0, s, 0, 0), Due.MISSING);
        }
        for (int s = 0; s <= 3; s++) {
            e.due("sheet(" + s + ", 8, 1)", x.sheet(s, 8, 1), 1).due("write(" + s + ", 0, 0)", x.write(s, 0, 0), 0);
        }
    }

    private static void sheetAllNought() {
        Edge e = Edge.promise(34, "A sheet has n numbers, all 0, of 8, 16 or 64 bits");
        int[] bits = {8, 16, 64};
        for (int b : bits) {
            HeadHats x = new HeadHats();
            e.due("sheet(3, " + b + ", 40)", x.sheet(3, b, 40), 40);
            for (int i = 0; i < 40; i++) {
                e.due("write(3, " + i + ", 7)", x.write(3, i, 7), 0);
            }
            e.due("sheet(3, " + b + ", 40), anew", x.sheet(3, b, 40), 40);
            for (int i = 0; i < 40; i++) {
                e.due("write(3, " + i + ", 7), all 0 again", x.write(3, i, 7), 0);
            }
            e.due("sheet(3, " + b + ", 0)", x.sheet(3, b, 0), 0).beyond("write(3, 0, 0), empty", x.write(3, 0, 0));
            e.due("sheet(3, " + b + ", 1)", x.sheet(3, b, 1), 1).due("write(3, 0, 0)", x.write(3, 0, 0), 0);
            e.beyond("write(3, 1, 0)", x.write(3, 1, 0));
            e.due("lays(3), there", x.lays(3), 0).due("write(2, 0, 0), another sheet", x.write(2, 0, 0), Due.MISSING);
        }
    }

    private static void sheetOfNoBits() {
        Edge e = Edge.promise(34, "bits 0: it is MISSING: n (0 if it is MISSING).");
        HeadHats x = new HeadHats();
        int[] sizes = {0, 1, 40};
        for (int n : sizes) {
            x.sheet(0, 8, 5);
            e.due("sheet(0, 0, " + n + ")", x.sheet(0, 0, n), 0).due("write(0, 0, 0)", x.write(0, 0, 0), Due.MISSING);
            e.due("sheet(1, 0, " + n + "), one that is MISSING", x.sheet(1, 0, n), 0).due("lays(1)", x.lays(1), Due.MISSING);
        }
        e.due("status(0)", x.status(0), 0);
    }

    private static void sheetBeyond() {
        Edge e = Edge.promise(34, "BEYOND: no such sheet, other bits.");
        HeadHats x = threeSheets(2);
        e.beyond("sheet(4, 8, 1)", x.sheet(4, 8, 1)).beyond("sheet(-1, 8, 1)", x.sheet(-1, 8, 1));
        e.beyond("sheet(MIN, 8, 1)", x.sheet(MIN, 8, 1)).beyond("sheet(MAX, 8, 1)", x.sheet(MAX, 8, 1));
        int[] others = {-1, 1, 7, 9, 15, 17, 24, 32, 63, 65, 128, -8, -16, -64, MIN, MAX};
        for (int b : others) {
            e.beyond("sheet(0, " + b + ", 1)", x.sheet(0, b, 1));
        }
        e.beyond("sheet(4, 8, -1), before SIZE", x.sheet(4, 8, -1)).beyond("sheet(0, 9, -1), before SIZE", x.sheet(0, 9, -1));
        e.beyond("sheet(4, 0, -1)", x.sheet(4, 0, -1)).due("status(6)", x.status(6), 0);
        e.due("copy(0, 0, 0, 0, 2)", x.copy(0, 0, 0, 0, 2), 2);
    }

    private static void sheetSize() {
        Edge e = Edge.promise(34, "SIZE: n is below 0 (also with bits 0).");
        HeadHats x = threeSheets(2);
        int[] bits = {0, 8, 16, 64};
        for (int b : bits) {
            e.due("sheet(0, " + b + ", -1)", x.sheet(0, b, -1), Due.SIZE);
            e.due("sheet(3, " + b + ", MIN)", x.sheet(3, b, MIN), Due.SIZE);
        }
        e.due("status(6)", x.status(6), 8).due("write(0, 1, 0), still there", x.write(0, 1, 0), 0);
        e.due("lays(3)", x.lays(3), Due.MISSING);
    }

    private static void sheetAbove40() {
        Edge e = Edge.promise(34, "BEYOND: n is above 40 (also with bits 0).");
        HeadHats x = threeSheets(2);
        int[] bits = {0, 8, 16, 64};
        for (int b : bits) {
            e.beyond("sheet(0, " + b + ", 41)", x.sheet(0, b, 41)).beyond("sheet(0, " + b + ", MAX)", x.sheet(0, b, MAX));
        }
        e.due("write(0, 1, 0), still there", x.write(0, 1, 0), 0).due("sheet(0, 0, 40)", x.sheet(0, 0, 40), 0);
        e.due("sheet(0, 8, 40)", x.sheet(0, 8, 40), 40);
    }

    private static void sheetRefusedStays() {
        Edge e = Edge.term(34, "one that answers a finding changes nothing but status().");
        HeadHats x = threeSheets(2);
        x.write(1, 1, 300);
        x.sheet(1, 8, -1);
        x.sheet(1, 0, 41);
        x.sheet(1, 32, 2);
        e.due("write(1, 1, 300), bits and numbers as they were", x.write(1, 1, 300), 300).due("again", x.write(1, 1, 0), 300);
        e.beyond("write(1, 2, 0)", x.write(1, 2, 0));
    }

    private static void wrap(Edge e, HeadHats x, int s, long v, long due) {
        x.write(s, 1, v);
        e.due("write(" + s + ", 1, 0), was " + v, x.write(s, 1, 0), due).due("status(-1)", x.status(-1), 0);
    }

    private static void writeLowest8Bits() {
        Edge e = Edge.promise(35, "Number i of a sheet becomes v (its lowest bits)");
        HeadHats x = threeSheets(2);
        long[][] due = {
            {0, 0}, {1, 1}, {127, 127}, {128, -128}, {255, -1}, {256, 0}, {257, 1}, {383, 127}, {384, -128}, {-1, -1}, {-128, -128}, {-129, 127},
            {-256, 0}, {65535, -1}, {1L << 32, 0}, {(1L << 40) + 99, 99}, {Long.MAX_VALUE, -1}, {Long.MIN_VALUE, 0}
        };
        for (long[] row : due) {
            wrap(e, x, 0, row[0], row[1]);
        }
    }

    private static void writeLowest16Bits() {
        Edge e = Edge.promise(35, "Number i of a sheet becomes v (its lowest bits)");
        HeadHats x = threeSheets(2);
        long[][] due = {
            {0, 0}, {255, 255}, {256, 256}, {32767, 32767}, {32768, -32768}, {65535, -1}, {65536, 0}, {65537, 1}, {98303, 32767}, {-1, -1},
            {-32768, -32768}, {-32769, 32767}, {-65536, 0}, {1L << 32, 0}, {(1L << 40) + 300, 300}, {Long.MAX_VALUE, -1}, {Long.MIN_VALUE, 0}
        };
        for (long[] row : due) {
            wrap(e, x, 1, row[0], row[1]);
        }
    }

    private static void write64Bits() {
        Edge e = Edge.promise(35, "Number i of a sheet becomes v (its lowest bits)");
        HeadHats x = threeSheets(2);
        long[] all = {0, 1, -1, 255, 65536, 1L << 31, 1L << 32, -(1L << 32), Long.MAX_VALUE, Long.MIN_VALUE, Due.BEYOND, Due.SIZE};
        for (long v : all) {
            wrap(e, x, 2, v, v);
        }
    }

    private static void writeWhatItWas() {
        Edge e = Edge.promise(35, "Number i of a sheet becomes v ..: what it was.");
        HeadHats x = threeSheets(40);
        for (int i = 0; i < 40; i++) {
            x.write(2, i, 1000 + i);
        }
        for (int i = 0; i < 40; i++) {
            e.due("write(2, " + i + ", 0)", x.write(2, i, 0), 1000 + i);
        }
        e.due("write(1, 0, 0), another sheet", x.write(1, 0, 0), 0);
    }

    private static void writeNoSuchSheet() {
        Edge e = Edge.promise(35, "BEYOND: no such sheet.");
        HeadHats x = threeSheets(2);
        e.beyond("write(4, 0, 0)", x.write(4, 0, 0)).beyond("write(-1, 0, 0)", x.write(-1, 0, 0));
        e.beyond("write(MIN, 0, 0)", x.write(MIN, 0, 0)).beyond("write(MAX, 0, 0)", x.write(MAX, 0, 0));
        e.due("status(5)", x.status(5), 0);
    }

    private static void writeMissing() {
        Edge e = Edge.promise(35, "MISSING.");
        HeadHats x = threeSheets(2);
        e.due("write(3, 0, 0)", x.write(3, 0, 0), Due.MISSING).due("write(3, -1, 0), asked first", x.write(3, -1, 0), Due.MISSING);
        e.due("write(3, 40, 0)", x.write(3, 40, 0), Due.MISSING).due("status(5)", x.status(5), 3).due("status(0)", x.status(0), 0);
    }

    private static void writeNoSuchNumber() {
        Edge e = Edge.promise(35, "BEYOND: no such number.");
        HeadHats x = threeSheets(2);
        e.beyond("write(0, 2, 1)", x.write(0, 2, 1)).beyond("write(0, -1, 1)", x.write(0, -1, 1));
        e.beyond("write(0, 40, 1)", x.write(0, 40, 1));
        e.beyond("write(0, MIN, 1)", x.write(0, MIN, 1)).beyond("write(0, MAX, 1)", x.write(0, MAX, 1));
        e.due("write(0, 1, 0), the last", x.write(0, 1, 0), 0).due("write(0, 0, 0)", x.write(0, 0, 0), 0);
        x.sheet(0, 8, 40);
        e.beyond("write(0, 40, 1)", x.write(0, 40, 1)).due("write(0, 39, 1)", x.write(0, 39, 1), 0);
        x.sheet(0, 8, 0);
        e.beyond("write(0, 0, 1), of none", x.write(0, 0, 1)).beyond("write(0, -1, 1)", x.write(0, -1, 1));
    }

    private static void writeFindingsInLongs() {
        Edge e = Edge.term(35, "-1000000001 BEYOND, .. (in longs, too).");
        HeadHats x = new HeadHats();
        long beyond = x.write(4, 0, 0);
        long missing = x.write(0, 0, 0);
        e.due("BEYOND", beyond, -1000000001L).due("MISSING", missing, -1000000006L);
    }

    private static void copyAll() {
        Edge e = Edge.promise(36, "n numbers of a sheet from one on come to another one from one on (as they all were): n.");
        HeadHats x = new HeadHats();
        x.sheet(0, 64, 40);
        x.sheet(3, 64, 40);
        for (int i = 0; i < 40; i++) {
            x.write(0, i, Long.MIN_VALUE + i);
        }
        e.due("copy(0, 0, 3, 0, 40)", x.copy(0, 0, 3, 0, 40), 40);
        for (int i = 0; i < 40; i++) {
            e.due("write(3, " + i + ", 0)", x.write(3, i, 0), Long.MIN_VALUE + i);
        }
        e.due("copy(0, 39, 3, 0, 1), the last to the first", x.copy(0, 39, 3, 0, 1), 1);
        e.due("write(3, 0, 0)", x.write(3, 0, 0), Long.MIN_VALUE + 39);
        e.due("copy(0, 0, 3, 39, 1)", x.copy(0, 0, 3, 39, 1), 1).due("write(3, 39, 0)", x.write(3, 39, 0), Long.MIN_VALUE);
        e.due("write(3, 1, 0)", x.write(3, 1, 0), 0).due("write(0, 0, 0), it stays", x.write(0, 0, 0), Long.MIN_VALUE);
    }

    private static void copyNone() {
        Edge e = Edge.promise(36, "n numbers of a sheet from one on come to another one from one on ..: n.");
        HeadHats x = threeSheets(3);
        x.sheet(3, 8, 0);
        e.due("copy(0, 0, 0, 0, 0)", x.copy(0, 0, 0, 0, 0), 0);
        e.due("copy(0, 3, 0, 3, 0), from the end on", x.copy(0, 3, 0, 3, 0), 0);
        e.due("copy(3, 0, 3, 0, 0), of an empty one", x.copy(3, 0, 3, 0, 0), 0);
        e.due("copy(0, 3, 3, 0, 0)", x.copy(0, 3, 3, 0, 0), 0);
        e.beyond("copy(3, 0, 0, 0, 1)", x.copy(3, 0, 0, 0, 1)).beyond("copy(0, 0, 3, 0, 1)", x.copy(0, 0, 3, 0, 1));
    }

    private static void copyAsTheyAllWere() {
        Edge e = Edge.promise(36, "(as they all were)");
        int[][] ways = {{0, 1}, {1, 0}, {0, 2}, {2, 0}, {0, 0}};
        for (int[] way : ways) {
            HeadHats x = threeSheets(6);
            for (int i = 0; i < 6; i++) {
                x.write(0, i, i + 1);
            }
            e.due("copy(0, " + way[0] + ", 0, " + way[1] + ", 4)", x.copy(0, way[0], 0, way[1], 4), 4);
            for (int i = 0; i < 6; i++) {
                int want = i >= way[1] && i < way[1] + 4 ? i - way[1] + way[0] + 1 : i + 1;
                e.due("write(0, " + i + ", 0)", x.write(0, i, 0), want);
            }
        }
    }

    private static void copyNoSuchSheet() {
        Edge e = Edge.promise(36, "BEYOND: no such sheet (either).");
        HeadHats x = threeSheets(2);
        int[] none = {4, -1, MIN, MAX};
        for (int s : none) {
            e.beyond("copy(" + s + ", 0, 0, 0, 1)", x.copy(s, 0, 0, 0, 1));
            e.beyond("copy(0, 0, " + s + ", 0, 1)", x.copy(0, 0, s, 0, 1));
            e.beyond("copy(" + s + ", 0, 3, 0, 1), before MISSING", x.copy(s, 0, 3, 0, 1));
            e.beyond("copy(3, 0, " + s + ", 0, 1)", x.copy(3, 0, s, 0, 1));
        }
        e.due("status(5)", x.status(5), 0);
    }

    private static void copyMissing() {
        Edge e = Edge.promise(36, "MISSING: one is.");
        HeadHats x = threeSheets(2);
        e.due("copy(3, 0, 0, 0, 1)", x.copy(3, 0, 0, 0, 1), Due.MISSING);
        e.due("copy(0, 0, 3, 0, 1)", x.copy(0, 0, 3, 0, 1), Due.MISSING);
        e.due("copy(3, 0, 3, 0, 0)", x.copy(3, 0, 3, 0, 0), Due.MISSING);
        e.due("copy(0, -1, 3, 9, -1)", x.copy(0, -1, 3, 9, -1), Due.MISSING);
        e.due("copy(3, 0, 2, 0, MIN)", x.copy(3, 0, 2, 0, MIN), Due.MISSING).due("status(2)", x.status(2), 0);
        e.due("status(0)", x.status(0), 0);
    }

    private static void copyKind() {
        Edge e = Edge.promise(36, "KIND: they are not of as many bits.");
        HeadHats x = threeSheets(2);
        for (int s = 0; s < 3; s++) {
            for (int t = 0; t < 3; t++) {
                e.due("copy(" + s + ", 0, " + t + ", 0, 2)", x.copy(s, 0, t, 0, 2), s == t ? 2 : Due.KIND);
            }
        }
        e.due("copy(0, 0, 1, 0, 0), of none too", x.copy(0, 0, 1, 0, 0), Due.KIND);
        e.due("copy(0, -1, 1, 0, 1), before BEYOND", x.copy(0, -1, 1, 0, 1), Due.KIND);
        e.due("copy(0, 0, 1, 0, 3)", x.copy(0, 0, 1, 0, 3), Due.KIND).due("copy(0, 0, 2, 0, -1)", x.copy(0, 0, 2, 0, -1), Due.KIND);
    }

    private static void copyNotSoMany() {
        Edge e = Edge.promise(36, "BEYOND: one has not so many, ..");
        HeadHats x = new HeadHats();
        x.sheet(0, 16, 5);
        x.sheet(1, 16, 3);
        e.due("copy(0, 0, 1, 0, 3)", x.copy(0, 0, 1, 0, 3), 3).due("copy(0, 2, 1, 0, 3)", x.copy(0, 2, 1, 0, 3), 3);
        e.due("copy(1, 0, 0, 2, 3)", x.copy(1, 0, 0, 2, 3), 3);
        e.beyond("copy(0, 3, 1, 0, 3)", x.copy(0, 3, 1, 0, 3)).beyond("copy(0, 0, 1, 0, 4)", x.copy(0, 0, 1, 0, 4));
        e.beyond("copy(0, 0, 1, 1, 3)", x.copy(0, 0, 1, 1, 3));
        e.beyond("copy(1, 0, 0, 0, 4)", x.copy(1, 0, 0, 0, 4)).beyond("copy(1, 0, 0, 3, 3)", x.copy(1, 0, 0, 3, 3));
        e.beyond("copy(0, 0, 0, 0, 6)", x.copy(0, 0, 0, 0, 6));
        e.beyond("copy(0, 5, 1, 0, 1)", x.copy(0, 5, 1, 0, 1)).beyond("copy(0, 6, 1, 0, 0)", x.copy(0, 6, 1, 0, 0));
        e.beyond("copy(0, 0, 1, 4, 0)", x.copy(0, 0, 1, 4, 0));
        e.beyond("copy(0, MAX, 1, 0, 0)", x.copy(0, MAX, 1, 0, 0)).beyond("copy(0, 0, 1, MAX, 0)", x.copy(0, 0, 1, MAX, 0));
        e.beyond("copy(0, 0, 1, 0, MAX)", x.copy(0, 0, 1, 0, MAX));
        // Sums that wrap around to something small.
        e.beyond("copy(0, MAX, 1, 0, 1)", x.copy(0, MAX, 1, 0, 1)).beyond("copy(0, 1, 1, 0, MAX)", x.copy(0, 1, 1, 0, MAX));
        e.beyond("copy(0, MAX, 1, MAX, MAX)", x.copy(0, MAX, 1, MAX, MAX)).beyond("copy(0, 0, 1, MAX, 1)", x.copy(0, 0, 1, MAX, 1));
    }

    private static void copyBelowNought() {
        Edge e = Edge.promise(36, "BEYOND: .. or from, to or n is below 0.");
        HeadHats x = new HeadHats();
        x.sheet(0, 16, 5);
        x.write(0, 1, 7);
        int[] below = {-1, -5, MIN, MIN + 1};
        for (int v : below) {
            e.beyond("copy(0, " + v + ", 0, 0, 1)", x.copy(0, v, 0, 0, 1));
            e.beyond("copy(0, 0, 0, " + v + ", 1)", x.copy(0, 0, 0, v, 1));
            e.beyond("copy(0, 0, 0, 0, " + v + ")", x.copy(0, 0, 0, 0, v));
            e.beyond("copy(0, " + v + ", 0, 0, 0)", x.copy(0, v, 0, 0, 0));
            e.beyond("copy(0, 0, 0, " + v + ", 0)", x.copy(0, 0, 0, v, 0)).beyond("all three", x.copy(0, v, 0, v, v));
            e.beyond("copy(0, 5, 0, 5, " + v + ")", x.copy(0, 5, 0, 5, v));
        }
        e.due("write(0, 1, 0), nothing came", x.write(0, 1, 0), 7).due("write(0, 0, 0)", x.write(0, 0, 0), 0);
    }

    private static void laysFrom0To99() {
        Edge e = Edge.promise(37, "Numbers of a sheet become PLEDGES of HATS 0, 1, .. (those that aren't 0 to 99, .. are left out): how many came.");
        HeadHats x = Due.shopOf("hat;hat;hat;hat;hat;hat;hat;hat");
        long[] numbers = {0, 99, 100, -1, (1L << 32) + 1, Long.MAX_VALUE, Long.MIN_VALUE, 98};
        int[] due = {0, 99, 5, 5, 5, 5, 5, 98};
        x.sheet(0, 64, 8);
        for (int h = 0; h < 8; h++) {
            x.write(0, h, numbers[h]);
        }
        e.due("lays(0)", x.lays(0), 3);
        for (int h = 0; h < 8; h++) {
            e.due("of(" + h + ", 2), of " + numbers[h], x.of(h, 2), due[h]);
        }
        e.due("write(0, 1, 0), the sheet stays", x.write(0, 1, 0), 99).due("status(-1)", x.status(-1), 0);
    }

    private static void laysForNone() {
        Edge e = Edge.promise(37, "(those that .. stand for none, are left out): how many came.");
        HeadHats x = new HeadHats();
        x.sheet(0, 8, 40);
        x.sheet(1, 8, 0);
        x.sheet(2, 8, 1);
        e.due("lays(0), no HAT", x.lays(0), 0).due("lays(1)", x.lays(1), 0);
        Due.read(x, "hat;hat");
        e.due("lays(1), no number", x.lays(1), 0).due("count(3)", x.count(3), 10).due("lays(2), one of two", x.lays(2), 1);
        e.due("count(3)", x.count(3), 5);
        e.due("lays(0), more than HATS", x.lays(0), 2).due("count(3)", x.count(3), 0);
        x.hat(0);
        e.due("of(2, 2), a HAT that came later", x.of(2, 2), 5).due("status(-1)", x.status(-1), 0);
    }

    private static void laysOfBits() {
        Edge e = Edge.promise(37, "Numbers of a sheet become PLEDGES of HATS 0, 1, ..");
        HeadHats x = Due.shopOf("hat;hat;hat");
        x.sheet(0, 8, 3);
        x.sheet(1, 16, 3);
        x.write(0, 0, 355);
        x.write(0, 1, 200);
        x.write(0, 2, 100);
        e.due("lays(0), 355 is 99 in 8 bits", x.lays(0), 1).due("of(0, 2)", x.of(0, 2), 99).due("count(3)", x.count(3), 109);
        x.write(1, 0, 355);
        x.write(1, 1, 65536 + 42);
        x.write(1, 2, 99);
        e.due("lays(1), 355 stays in 16 bits", x.lays(1), 2).due("of(0, 2)", x.of(0, 2), 99).due("of(1, 2)", x.of(1, 2), 42);
        e.due("of(2, 2)", x.of(2, 2), 99);
    }

    private static void laysBeyondMissing() {
        Edge e = Edge.promise(37, "BEYOND: no such sheet. MISSING.");
        HeadHats x = Due.shopOf("hat");
        e.beyond("lays(4)", x.lays(4)).beyond("lays(-1)", x.lays(-1)).beyond("lays(MIN)", x.lays(MIN));
        e.beyond("lays(MAX)", x.lays(MAX));
        e.due("lays(3)", x.lays(3), Due.MISSING).due("lays(0)", x.lays(0), Due.MISSING).due("count(3)", x.count(3), 5);
        e.due("status(5)", x.status(5), 2);
        x.sheet(3, 8, 1);
        e.due("lays(3)", x.lays(3), 1);
    }

    private static void bookAsManyAsItHas() {
        Edge e = Edge.promise(38, "comes to a sheet, as many as it has numbers: how many.");
        int[] bits = {8, 16, 64};
        for (int b : bits) {
            HeadHats x = Due.shopOf("hat holds 4095;felt holds 1");
            x.sheet(3, b, 40);
            e.due("book(3, 0), of 40", x.book(3, 0), 40);
            for (int n = 0; n < 40; n++) {
                e.due("write(3, " + n + ", 0)", x.write(3, n, 0), n < 9 ? 108 - 12 * n : 0);
            }
            x.sheet(3, b, 0);
            e.due("book(3, 0), of none", x.book(3, 0), 0);
            x.sheet(3, b, 1);
            e.due("book(3, 1), of one", x.book(3, 1), 1).due("write(3, 0, 0)", x.write(3, 0, 0), 9);
            e.due("now(0), nothing changes", x.now(0), 0);
            e.due("now(1)", x.now(1), 117).due("status(-1)", x.status(-1), 0);
        }
    }

    private static void bookOnWeeks() {
        Edge e = Edge.promise(38, "FRESH of all THOUGHTS of a HAT together ON 0, 1, 2, .. WEEKS");
        HeadHats x = Due.shopOf("mitre holds 31;moths");
        x.weeks(1);
        // {0, 1, 3, 4} of 8; by 1, by 0, by 2, by 0, by 1 less, and of four and of three the middle goes.
        x.sheet(0, 64, 6);
        x.write(0, 0, Long.MIN_VALUE);
        int[] due = {32, 21, 14, 10, 10, 8};
        e.due("book(0, 0)", x.book(0, 0), 6);
        for (int n = 0; n < 6; n++) {
            e.due("write(0, " + n + ", 0)", x.write(0, n, 0), due[n]);
        }
        e.due("of(0, 3)", x.of(0, 3), 32);
        HeadHats y = new HeadHats();
        for (int i = 0; i < 166; i++) {
            y.weeks(60);
        }
        y.weeks(39);
        Due.read(y, "felt holds 1");
        y.sheet(0, 8, 4);
        e.due("book(0, 0), past WEEK 9999", y.book(0, 0), 4);
        int[] late = {9, 8, 8, 7};
        for (int n = 0; n < 4; n++) {
            e.due("write(0, " + n + ", 0)", y.write(0, n, 0), late[n]);
        }
    }

    private static void bookFindings() {
        Edge e = Edge.promise(38, "BEYOND: no such sheet. MISSING. BEYOND: hat.");
        HeadHats x = Due.shopOf("hat holds 1;hat holds 1");
        x.sheet(0, 8, 1);
        e.beyond("book(4, 0)", x.book(4, 0)).beyond("book(-1, 0)", x.book(-1, 0)).beyond("book(MIN, 0)", x.book(MIN, 0));
        e.beyond("book(MAX, 0)", x.book(MAX, 0));
        e.beyond("book(4, 9), the sheet first", x.book(4, 9)).due("book(3, 0)", x.book(3, 0), Due.MISSING);
        e.due("book(3, 2), before the hat", x.book(3, 2), Due.MISSING);
        e.due("book(3, -1)", x.book(3, -1), Due.MISSING).beyond("book(0, 2)", x.book(0, 2)).beyond("book(0, -1)", x.book(0, -1));
        e.beyond("book(0, MIN)", x.book(0, MIN)).beyond("book(0, MAX)", x.book(0, MAX));
        e.due("write(0, 0, 0), nothing came", x.write(0, 0, 0), 0);
        e.due("book(0, 1), the last", x.book(0, 1), 1);
    }

    private static void readOfNone() {
        Edge e = Edge.promise(39, "how many pairs of a KIND and a THOUGHT of FRESH 9 .. make it just so.");
        HeadHats x = Due.shopOf("hat;brim holds 4095");
        int[] bits = {8, 16, 64};
        for (int b : bits) {
            x.sheet(0, b, 0);
            e.due("read(0, 0), of no number: all", x.read(0, 0), 72).due("read(0, 1)", x.read(0, 1), 72);
        }
    }

    private static void readJustSo() {
        Edge e = Edge.promise(39, "numbers of a sheet are FRESH of all THOUGHTS of a HAT together ON 0, 1, 2, .. WEEKS: .. make it just so.");
        HeadHats x = Due.shopOf("hat");
        x.sheet(0, 8, 40);
        for (int n = 0; n < 40; n++) {
            x.write(0, n, n < 9 ? 9 - n : 0);
        }
        // As hat, feather, brim, of each thought; a mitre is another from the third week on.
        e.due("read(0, 0), of 40", x.read(0, 0), 36);
        x.write(0, 39, 1);
        e.due("read(0, 0), all but the last", x.read(0, 0), 0);
        x.write(0, 39, 0);
        x.write(0, 0, 8);
        e.due("read(0, 0), all but the first", x.read(0, 0), 0);
        x.sheet(0, 8, 3);
        x.write(0, 0, 9);
        x.write(0, 1, 8);
        x.write(0, 2, 7);
        e.due("read(0, 0), a mitre too in three", x.read(0, 0), 48);
        x.weeks(2);
        e.due("read(0, 0), by the WEEK that it is: a mitre fades by 0 and 2", x.read(0, 0), 36);
    }

    private static void readFresh9() {
        Edge e = Edge.promise(39, "a THOUGHT of FRESH 9 (that it has besides now)");
        HeadHats x = Due.shopOf("hat;hat holds 4095");
        x.fresh(0, 0, 1);
        x.fresh(0, 11, 9);
        x.sheet(0, 16, 1);
        x.write(0, 0, 10);
        e.due("read(0, 0), 11 that it HOLDS so", x.read(0, 0), 6);
        x.write(0, 0, 18);
        e.due("read(0, 0), 0 that becomes FRESH 9", x.read(0, 0), 6);
        x.write(0, 0, 19);
        e.due("read(0, 0), ten others", x.read(0, 0), 60);
        x.write(0, 0, 108);
        e.due("read(0, 1), of one that HOLDS all", x.read(0, 1), 72);
        x.write(0, 0, 117);
        e.due("read(0, 1), no 13th", x.read(0, 1), 0);
        x.write(0, 0, 0);
        e.due("read(0, 0), none without it", x.read(0, 0), 0);
    }

    private static void readKinds() {
        Edge e = Edge.promise(39, "how many pairs of a KIND and a THOUGHT ..");
        HeadHats x = Due.shopOf("brim");
        x.sheet(0, 8, 2);
        x.write(0, 0, 9);
        int[] due = {0, 12, 48, 12};
        int[] second = {10, 9, 8, 7};
        for (int i = 0; i < 4; i++) {
            x.write(0, 1, second[i]);
            e.due("read(0, 0), then " + second[i], x.read(0, 0), due[i]);
        }
        x.weeks(1);
        // In WEEK 1 felt and mitre fade by 1, as all but straw.
        int[] odd = {0, 0, 60, 12};
        for (int i = 0; i < 4; i++) {
            x.write(0, 1, second[i]);
            e.due("read(0, 0) in WEEK 1, then " + second[i], x.read(0, 0), odd[i]);
        }
    }

    private static void readLongs() {
        Edge e = Edge.promise(39, "numbers of a sheet are FRESH of all THOUGHTS of a HAT together");
        HeadHats x = Due.shopOf("hat");
        x.sheet(0, 64, 1);
        long[] others = {9 + (1L << 32), 9 - (1L << 32), 9 + (1L << 63), 9 + 256, 9 + 65536, -9, -247};
        for (long v : others) {
            x.write(0, 0, v);
            e.due("read(0, 0), of " + v, x.read(0, 0), 0);
        }
        x.write(0, 0, 9);
        e.due("read(0, 0)", x.read(0, 0), 72);
    }

    private static void readChangesNothing() {
        Edge e = Edge.promise(39, "numbers of a sheet are FRESH of all THOUGHTS of a HAT together ON 0, 1, 2, .. WEEKS");
        HeadHats x = Due.shopOf("straw holds 3 pledge 8;moths");
        x.sheet(0, 8, 3);
        x.write(0, 2, 77);
        x.read(0, 0);
        e.due("of(0, 0)", x.of(0, 0), 2).due("of(0, 1)", x.of(0, 1), 3).due("of(0, 2)", x.of(0, 2), 8).due("now(0)", x.now(0), 0);
        e.due("write(0, 2, 0)", x.write(0, 2, 0), 77).due("count(0)", x.count(0), 1);
    }

    private static void readFindings() {
        Edge e = Edge.promise(39, "BEYOND: no such sheet. MISSING. BEYOND: hat.");
        HeadHats x = Due.shopOf("hat;hat");
        x.sheet(0, 8, 0);
        e.beyond("read(4, 0)", x.read(4, 0)).beyond("read(-1, 0)", x.read(-1, 0)).beyond("read(MIN, 0)", x.read(MIN, 0));
        e.beyond("read(MAX, 0)", x.read(MAX, 0));
        e.beyond("read(4, 9), the sheet first", x.read(4, 9)).due("read(3, 0)", x.read(3, 0), Due.MISSING);
        e.due("read(3, 2), before the hat", x.read(3, 2), Due.MISSING);
        e.due("read(3, -1)", x.read(3, -1), Due.MISSING).beyond("read(0, 2)", x.read(0, 2)).beyond("read(0, -1)", x.read(0, -1));
        e.beyond("read(0, MIN)", x.read(0, MIN)).beyond("read(0, MAX)", x.read(0, MAX));
        e.due("read(0, 1), the last", x.read(0, 1), 72);
    }
}
