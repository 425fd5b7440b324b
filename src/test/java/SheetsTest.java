/** Promises 34 to 39: sheets. */
public final class SheetsTest {
    public static void main(String[] args) {
        sheet();
        write();
        copy();
        lays();
        book();
        read();
        Due.end();
    }

    private static void sheet() {
        HeadHats x = new HeadHats();
        Due.due(34, "sheet(0, 8, 40)", x.sheet(0, 8, 40), 40);
        Due.due(34, "sheet(3, 64, 0)", x.sheet(3, 64, 0), 0);
        Due.due(34, "write(3, 0, 0), there but empty", x.write(3, 0, 0), Due.BEYOND);
        Due.due(34, "sheet(1, 16, 1)", x.sheet(1, 16, 1), 1);
        x.write(0, 5, 9);
        Due.due(34, "sheet(0, 8, 6) anew", x.sheet(0, 8, 6), 6);
        Due.due(34, "write(0, 5, 0), all 0", x.write(0, 5, 0), 0);
        Due.due(34, "sheet(0, 0, 40)", x.sheet(0, 0, 40), 0);
        Due.due(34, "write(0, 0, 0)", x.write(0, 0, 0), Due.MISSING);
        Due.due(34, "sheet(4, 8, 1)", x.sheet(4, 8, 1), Due.BEYOND);
        Due.due(34, "sheet(-1, 8, -1)", x.sheet(-1, 8, -1), Due.BEYOND);
        Due.due(34, "sheet(1, 32, 1)", x.sheet(1, 32, 1), Due.BEYOND);
        Due.due(34, "sheet(1, 7, -1)", x.sheet(1, 7, -1), Due.BEYOND);
        Due.due(34, "sheet(1, 8, -1)", x.sheet(1, 8, -1), Due.SIZE);
        Due.due(34, "sheet(1, 0, -1)", x.sheet(1, 0, -1), Due.SIZE);
        Due.due(34, "sheet(1, 8, 41)", x.sheet(1, 8, 41), Due.BEYOND);
        Due.due(34, "sheet(1, 0, 41)", x.sheet(1, 0, 41), Due.BEYOND);
        Due.due(34, "write(1, 0, 0), still there", x.write(1, 0, 0), 0);
    }

    private static void write() {
        HeadHats x = new HeadHats();
        x.sheet(0, 8, 2);
        x.sheet(1, 16, 2);
        x.sheet(2, 64, 2);
        Due.due(35, "write(0, 1, 0x1234)", x.write(0, 1, 0x1234), 0);
        Due.due(35, "write(0, 1, 200)", x.write(0, 1, 200), 0x34);
        Due.due(35, "write(0, 1, 0)", x.write(0, 1, 0), -56);
        Due.due(35, "write(1, 1, 0x12345)", x.write(1, 1, 0x12345), 0);
        Due.due(35, "write(1, 1, 0x8000)", x.write(1, 1, 0x8000), 0x2345);
        Due.due(35, "write(1, 1, 0)", x.write(1, 1, 0), -32768);
        Due.due(35, "write(2, 1, MIN)", x.write(2, 1, Long.MIN_VALUE), 0);
        Due.due(35, "write(2, 1, a finding's number)", x.write(2, 1, Due.FULL), Long.MIN_VALUE);
        Due.due(35, "write(2, 1, 0)", x.write(2, 1, 0), Due.FULL);
        Due.due(35, "status(-1), none of these is a finding", x.status(-1), 0);
        Due.due(35, "write(2, 0, 0)", x.write(2, 0, 0), 0);
        Due.due(35, "write(4, 0, 0)", x.write(4, 0, 0), Due.BEYOND);
        Due.due(35, "write(-1, 0, 0)", x.write(-1, 0, 0), Due.BEYOND);
        Due.due(35, "write(3, 9, 0), missing first", x.write(3, 9, 0), Due.MISSING);
        Due.due(35, "write(0, 2, 0)", x.write(0, 2, 0), Due.BEYOND);
        Due.due(35, "write(0, -1, 0)", x.write(0, -1, 0), Due.BEYOND);
    }

    private static void copy() {
        HeadHats x = new HeadHats();
        x.sheet(0, 16, 5);
        x.sheet(1, 16, 3);
        x.sheet(2, 8, 5);
        for (int i = 0; i < 5; i++) {
            x.write(0, i, i + 1);
        }
        Due.due(36, "copy(0, 2, 1, 0, 3)", x.copy(0, 2, 1, 0, 3), 3);
        for (int i = 0; i < 3; i++) {
            Due.due(36, "write(1, " + i + ", 0)", x.write(1, i, 0), i + 3);
        }
        Due.due(36, "copy(0, 0, 0, 1, 4), within itself", x.copy(0, 0, 0, 1, 4), 4);
        int[] due = {1, 1, 2, 3, 4};
        for (int i = 0; i < 5; i++) {
            Due.due(36, "write(0, " + i + ", ..)", x.write(0, i, due[i]), due[i]);
        }
        Due.due(36, "copy(0, 5, 1, 3, 0)", x.copy(0, 5, 1, 3, 0), 0);
        Due.due(36, "copy(0, 6, 1, 0, 0)", x.copy(0, 6, 1, 0, 0), Due.BEYOND);
        Due.due(36, "copy(0, 0, 1, 4, 0)", x.copy(0, 0, 1, 4, 0), Due.BEYOND);
        Due.due(36, "copy(0, 0, 1, 0, 4)", x.copy(0, 0, 1, 0, 4), Due.BEYOND);
        Due.due(36, "copy(0, 3, 1, 0, 3)", x.copy(0, 3, 1, 0, 3), Due.BEYOND);
        Due.due(36, "copy(0, -1, 1, 0, 1)", x.copy(0, -1, 1, 0, 1), Due.BEYOND);
        Due.due(36, "copy(0, 0, 1, -1, 1)", x.copy(0, 0, 1, -1, 1), Due.BEYOND);
        Due.due(36, "copy(0, 0, 1, 0, -1)", x.copy(0, 0, 1, 0, -1), Due.BEYOND);
        Due.due(36, "copy(0, MAX, 1, 0, MAX)", x.copy(0, Integer.MAX_VALUE, 1, 0, Integer.MAX_VALUE), Due.BEYOND);
        Due.due(36, "copy(0, 1, 1, 1, MIN)", x.copy(0, 1, 1, 1, Integer.MIN_VALUE), Due.BEYOND);
        Due.due(36, "copy(4, 0, 3, 0, 1)", x.copy(4, 0, 3, 0, 1), Due.BEYOND);
        Due.due(36, "copy(3, 0, -1, 0, 1)", x.copy(3, 0, -1, 0, 1), Due.BEYOND);
        Due.due(36, "copy(3, 0, 0, 0, -1)", x.copy(3, 0, 0, 0, -1), Due.MISSING);
        Due.due(36, "copy(0, 0, 3, 0, -1)", x.copy(0, 0, 3, 0, -1), Due.MISSING);
        Due.due(36, "copy(0, 0, 2, 0, -1)", x.copy(0, 0, 2, 0, -1), Due.KIND);
        Due.due(36, "write(1, 0, 0), unchanged", x.write(1, 0, 0), 0);
    }

    private static void lays() {
        HeadHats x = Due.shopOf("hat;hat;hat;hat");
        Due.due(37, "lays(0)", x.lays(0), Due.MISSING);
        Due.due(37, "lays(4)", x.lays(4), Due.BEYOND);
        Due.due(37, "lays(-1)", x.lays(-1), Due.BEYOND);
        x.sheet(0, 64, 6);
        x.write(0, 0, 99);
        x.write(0, 1, 100);
        x.write(0, 2, -1);
        x.write(0, 3, 0);
        x.write(0, 4, 8);
        Due.due(37, "lays(0)", x.lays(0), 2);
        int[] due = {99, 5, 5, 0};
        for (int h = 0; h < 4; h++) {
            Due.due(37, "of(" + h + ", 2)", x.of(h, 2), due[h]);
        }
        x.write(0, 0, 4294967296L);
        Due.due(37, "lays(0), a long too great", x.lays(0), 1);
        Due.due(37, "of(0, 2)", x.of(0, 2), 99);
        x.sheet(0, 8, 2);
        Due.due(37, "lays(0), of two", x.lays(0), 2);
        Due.due(37, "count(3)", x.count(3), 5);
    }

    private static void book() {
        HeadHats x = Due.shopOf("straw holds 7;mitre holds 1;moths");
        x.weeks(1);
        x.sheet(0, 8, 6);
        Due.due(38, "book(0, 0)", x.book(0, 0), 6);
        int[] straw = {14, 10, 6, 2, 0, 0};
        for (int i = 0; i < 6; i++) {
            Due.due(38, "write(0, " + i + ", 0)", x.write(0, i, 0), straw[i]);
        }
        x.sheet(1, 64, 4);
        Due.due(38, "book(1, 1)", x.book(1, 1), 4);
        int[] mitre = {8, 7, 7, 5};
        for (int i = 0; i < 4; i++) {
            Due.due(38, "write(1, " + i + ", 0)", x.write(1, i, 0), mitre[i]);
        }
        Due.due(38, "of(0, 3), unchanged", x.of(0, 3), 14);
        x.sheet(1, 16, 0);
        Due.due(38, "book(1, 1), an empty sheet", x.book(1, 1), 0);
        HeadHats y = Due.shopOf("hat holds 4095");
        y.sheet(0, 8, 2);
        y.book(0, 0);
        Due.due(38, "write(0, 0, 0)", y.write(0, 0, 0), 108);
        Due.due(38, "write(0, 1, 0)", y.write(0, 1, 0), 96);
        Due.due(38, "book(4, 9)", x.book(4, 9), Due.BEYOND);
        Due.due(38, "book(-1, 0)", x.book(-1, 0), Due.BEYOND);
        Due.due(38, "book(2, 9), missing first", x.book(2, 9), Due.MISSING);
        Due.due(38, "book(0, 2)", x.book(0, 2), Due.BEYOND);
        Due.due(38, "book(0, -1)", x.book(0, -1), Due.BEYOND);
    }

    private static void read() {
        HeadHats x = Due.shopOf("hat holds 1;felt");
        x.sheet(0, 8, 0);
        Due.due(39, "read(0, 0), an empty sheet", x.read(0, 0), 72);
        x.sheet(0, 8, 1);
        x.write(0, 0, 9);
        Due.due(39, "read(0, 0), one that it holds", x.read(0, 0), 6);
        Due.due(39, "read(0, 1), any", x.read(0, 1), 72);
        x.write(0, 0, 18);
        Due.due(39, "read(0, 0), one besides", x.read(0, 0), 66);
        Due.due(39, "read(0, 1)", x.read(0, 1), 0);
        x.sheet(1, 16, 3);
        x.write(1, 0, 9);
        x.write(1, 1, 9);
        x.write(1, 2, 8);
        Due.due(39, "read(1, 1), as felt", x.read(1, 1), 12);
        x.write(1, 1, 8);
        x.write(1, 2, 7);
        Due.due(39, "read(1, 1), as hat, feather, mitre, brim", x.read(1, 1), 48);
        x.write(1, 1, 7);
        x.write(1, 2, 5);
        Due.due(39, "read(1, 1), as straw", x.read(1, 1), 12);
        x.fresh(0, 0, 2);
        x.write(0, 0, 9);
        Due.due(39, "read(0, 0), fresher than it was", x.read(0, 0), 6);
        Due.due(39, "told(0, 0), unchanged", x.told(0, 0), 2);
        Due.due(39, "of(1, 0), unchanged", x.of(1, 0), 1);
        Due.due(39, "read(4, 9)", x.read(4, 9), Due.BEYOND);
        Due.due(39, "read(-1, 0)", x.read(-1, 0), Due.BEYOND);
        Due.due(39, "read(2, 9), missing first", x.read(2, 9), Due.MISSING);
        Due.due(39, "read(0, 2)", x.read(0, 2), Due.BEYOND);
        Due.due(39, "read(0, -1)", x.read(0, -1), Due.BEYOND);
        HeadHats y = Due.shopOf("hat holds 5;moths");
        y.sheet(0, 8, 2);
        y.write(0, 0, 27);
        y.write(0, 1, 16);
        // The middle of three, each one less, is lost: hat, feather, mitre, brim with one of ten others.
        Due.due(39, "read(0, 0), with moths", y.read(0, 0), 40);
    }
}
