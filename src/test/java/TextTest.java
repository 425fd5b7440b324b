/** Promises 31 to 33: the text. */
public final class TextTest {
    public static void main(String[] args) {
        feed();
        wipe();
        shop();
        faults();
        fullShop();
        faultChangesNothing();
        Due.end();
    }

    private static void feed() {
        HeadHats x = new HeadHats();
        Due.due(31, "feed(0, 0)", x.feed(0, 0), Due.BEYOND);
        Due.due(31, "feed(0, 5)", x.feed(0, 5), Due.BEYOND);
        Due.due(31, "feed(0, -1)", x.feed(0, -1), Due.BEYOND);
        Due.due(31, "feed, 3 lowest bytes", x.feed(0x7a686174, 3), 3);
        Due.due(31, "shop(), the highest first", x.shop(), 1);
        Due.due(31, "feed of a negative number", x.feed(0xff3b6861, 4), 4);
        Due.due(31, "shop()", x.shop(), -1);
        for (int i = 1; i <= 29; i++) {
            Due.due(31, "feed(.., 4)", x.feed(0x20202020, 4), 4 * i);
        }
        Due.due(31, "feed(.., 2)", x.feed(0x2020, 2), 118);
        Due.due(31, "feed(.., 3)", x.feed(0x202020, 3), Due.FULL);
        Due.due(31, "feed(.., 5), beyond first", x.feed(0x202020, 5), Due.BEYOND);
        Due.due(31, "count(1)", x.count(1), 118);
        Due.due(31, "feed(.., 2)", x.feed(0x2020, 2), 120);
        Due.due(31, "feed(.., 1)", x.feed(0x20, 1), Due.FULL);
        Due.due(31, "shop()", x.shop(), -121);
    }

    private static void wipe() {
        HeadHats x = new HeadHats();
        Due.due(32, "wipe()", x.wipe(), 0);
        Due.feed(x, "hat;zzz");
        Due.due(32, "wipe()", x.wipe(), 7);
        Due.due(32, "count(1)", x.count(1), 0);
        Due.feed(x, "felt");
        Due.due(32, "shop()", x.shop(), 1);
        Due.due(32, "of(0, 0)", x.of(0, 0), 1);
    }

    private static void shop() {
        HeadHats x = new HeadHats();
        x.head(1);
        Due.due(33, "a text of all", Due.read(x, " brim holds 4095 pledge 99;mitre pledge 0 ; feather holds 0"), 3);
        Due.due(33, "of(0, 0)", x.of(0, 0), 5);
        Due.due(33, "of(0, 3)", x.of(0, 3), 108);
        Due.due(33, "of(0, 2)", x.of(0, 2), 99);
        Due.due(33, "of(1, 0)", x.of(1, 0), 4);
        Due.due(33, "of(1, 1)", x.of(1, 1), 0);
        Due.due(33, "of(1, 2)", x.of(1, 2), 0);
        Due.due(33, "of(2, 0)", x.of(2, 0), 3);
        Due.due(33, "of(2, 2)", x.of(2, 2), 5);
        Due.due(33, "count(1)", x.count(1), 0);
        Due.due(33, "tokens without blanks", Due.read(x, "hat holds3pledge0007;straw;felt  "), 3);
        Due.due(33, "of(3, 1)", x.of(3, 1), 3);
        Due.due(33, "of(3, 2)", x.of(3, 2), 7);
        Due.due(33, "heads", Due.read(x, "head;head bald;head has 5;head has 4095bald"), 4);
        Due.due(33, "about(1, 1)", x.about(1, 1), 0);
        Due.due(33, "about(2, 1)", x.about(2, 1), 1);
        Due.due(33, "about(2, 0)", x.about(2, 0), 0);
        Due.due(33, "about(3, 0)", x.about(3, 0), 5);
        Due.due(33, "about(4, 0)", x.about(4, 0), 4095);
        Due.due(33, "about(4, 1)", x.about(4, 1), 1);
        Due.due(33, "moths", Due.read(x, "moths"), 1);
        Due.due(33, "now(4)", x.now(4), 1);
        Due.due(33, "moths;none", Due.read(x, "moths;none"), 2);
        Due.due(33, "now(4)", x.now(4), 0);
        Due.due(33, "none;moths", Due.read(x, "none;moths"), 2);
        Due.due(33, "now(4)", x.now(4), 1);
        Due.due(33, "items that fill the tape nearly", Due.read(x, "none;".repeat(23) + "none"), 24);
        Due.due(33, "status(-1)", x.status(-1), 0);
    }

    private static void fault(String text, int place) {
        HeadHats x = new HeadHats();
        Due.due(33, "shop() of \"" + text + "\"", Due.read(x, text), -1 - place);
        Due.due(33, "count(0)", x.count(0), 0);
        Due.due(33, "count(1)", x.count(1), 0);
        Due.due(33, "count(2)", x.count(2), 0);
        Due.due(33, "now(4)", x.now(4), 0);
        Due.due(33, "status(-1)", x.status(-1), 0);
    }

    private static void faults() {
        fault("", 0);
        fault("   ", 3);
        fault(";", 0);
        fault("hat;", 4);
        fault("hat; ", 5);
        fault("hat;;hat", 4);
        fault("hat hat", 4);
        fault("hats", 0);
        fault("hatz", 0);
        fault("hata", 0);
        fault("cat", 0);
        fault("ha t", 0);
        fault("Hat", 0);
        fault("7", 0);
        fault("hat 7", 4);
        fault("hat holds", 9);
        fault("hat holds ", 10);
        fault("hat holds;", 9);
        fault("hat holds x", 10);
        fault("hat holds 4096", 10);
        fault("hat holds 10000", 10);
        fault("hat holds 4294967296", 10);
        fault("hat holds 99999999999999999999999999", 10);
        fault("hat holds 1 2", 12);
        fault("hat holds 1 holds 2", 12);
        fault("hat pledge 1 holds 2", 13);
        fault("hat pledge", 10);
        fault("hat pledge 100", 11);
        fault("hat pledge 1 pledge 2", 13);
        fault("hat pledge -1", 11);
        fault("hat has 1", 4);
        fault("hat bald", 4);
        fault("head has", 8);
        fault("head has 4096", 9);
        fault("head bald has 1", 10);
        fault("head bald bald", 10);
        fault("head holds 1", 5);
        fault("head pledge 1", 5);
        fault("moths none", 6);
        fault("moths 1", 6);
        fault("none;mothss", 5);
        fault("moths;none;!", 11);
        fault("hat,hat", 3);
        fault("hat\tholds 1", 3);
        fault("hat\nhat", 3);
        fault("hat;\u00e9", 4);
        fault("hat\u0000", 3);
        fault("holds 1", 0);
    }

    private static void fullShop() {
        HeadHats x = Due.shopOf("hat;hat;hat;hat;hat;hat");
        Due.due(33, "a 9th hat", Due.read(x, "felt;felt;felt holds 9999"), -11);
        Due.due(33, "count(0)", x.count(0), 6);
        Due.due(33, "an 8th hat", Due.read(x, "felt;felt"), 2);
        Due.due(33, "a 9th hat", Due.read(x, "none; brim"), -7);
        Due.due(33, "heads", Due.read(x, "head;head;head;head;head;head"), 6);
        Due.due(33, "a 7th head", Due.read(x, "head"), -1);
        Due.due(33, "moths still", Due.read(x, "moths"), 1);
        Due.due(33, "status(-1)", x.status(-1), 0);
    }

    private static void faultChangesNothing() {
        HeadHats x = Due.shopOf("hat holds 1;head has 1");
        x.fresh(0, 3, 2);
        x.mind(0, 2, 50);
        Due.due(33, "a late fault", Due.read(x, "felt holds 6;head has 9 bald;moths;x"), -36);
        Due.due(33, "count(0)", x.count(0), 1);
        Due.due(33, "count(2)", x.count(2), 1);
        Due.due(33, "now(4)", x.now(4), 0);
        Due.due(33, "of(0, 1)", x.of(0, 1), 9);
        Due.due(33, "about(0, 2)", x.about(0, 2), 50);
        Due.due(33, "hat(2)", x.hat(2), 1);
        Due.due(33, "of(1, 1), a new one holds nothing", x.of(1, 1), 0);
    }
}
