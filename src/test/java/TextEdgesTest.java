/** Promises 31 to 33, and the text of a shop: each sentence that names a boundary case has a test of its own. */
public final class TextEdgesTest {
    private static final int MIN = Integer.MIN_VALUE;
    private static final int MAX = Integer.MAX_VALUE;
    private static final String BLANKS = " ".repeat(120);

    public static void main(String[] args) {
        feedLowestBytes();
        feedHighestFirst();
        feedBehindIt();
        feedBeyond();
        feedFull();
        wipeEmpties();
        shopEmptiesTheTape();
        shopComesToWhatThereIs();
        tokensAsLongAsCanBe();
        wordsOfSmallLetters();
        numbersOfDigits();
        numbersAtMost9999();
        signs();
        blanksBetween();
        namesOfKinds();
        holdsASet();
        pledges();
        hatParts();
        heads();
        mothsOrNone();
        faultAtNumber();
        faultAtWord();
        faultAtByte();
        faultEndsTooEarly();
        faultIsTheFirst();
        fault9thHat();
        fault7thHead();
        faultChangesNothing();
        longestText();
        Due.end();
    }

    private static int read(HeadHats x, String text) {
        Due.dueTrue("no text of more than 120 bytes: " + text, text.length() + x.count(1) <= 120);
        return Due.read(x, text);
    }

    /** A text that comes to a new shop without a fault. */
    private static HeadHats good(Edge e, String text, int items) {
        HeadHats x = new HeadHats();
        e.due("shop() of \"" + text + "\"", read(x, text), items).due("count(1)", x.count(1), 0).due("status(-1)", x.status(-1), 0);
        return x;
    }

    /** A text with a fault comes to nothing. */
    private static void bad(Edge e, String text, int place) {
        HeadHats x = new HeadHats();
        e.due("shop() of \"" + text + "\"", read(x, text), -1 - place).due("count(1)", x.count(1), 0);
        e.due("status(-1)", x.status(-1), 0);
        e.due("count(0)", x.count(0), 0).due("count(2)", x.count(2), 0).due("now(4)", x.now(4), 0);
    }

    private static void feedLowestBytes() {
        Edge e = Edge.promise(31, "THE TAPE gets the n lowest bytes of a number behind it");
        HeadHats x = new HeadHats();
        e.due("feed of 1", x.feed(0x7a7a7a68, 1), 1).due("feed of 2", x.feed(0x7a7a6174, 2), 3).due("shop() of hat", x.shop(), 1);
        e.due("feed of 3", x.feed(0x7a686174, 3), 3).due("shop() of hat", x.shop(), 1);
        e.due("feed of 4", x.feed(0x66656c74, 4), 4).due("shop() of felt", x.shop(), 1).due("of(2, 0)", x.of(2, 0), 1);
    }

    private static void feedHighestFirst() {
        Edge e = Edge.promise(31, "the highest of these first (n 1 to 4): how many it has.");
        HeadHats x = new HeadHats();
        // The place of the fault tells where each byte came to: "brim" and a byte that begins no token.
        for (int n = 1; n <= 4; n++) {
            Due.feed(x, "brim");
            e.due("feed(.., " + n + ")", x.feed(0x20202020 & ~0xff | 0xff, n), 4 + n).due("shop()", x.shop(), -1 - (4 + n - 1));
            Due.feed(x, "brim");
            x.feed((0x20202020 & ~(0xff << (8 * (n - 1)))) | (0xff << (8 * (n - 1))), n);
            e.due("shop(), the highest is first", x.shop(), -1 - 4);
        }
    }

    private static void feedBehindIt() {
        Edge e = Edge.promise(31, "THE TAPE gets .. bytes .. behind it .. how many it has.");
        HeadHats x = new HeadHats();
        e.due("feed", x.feed('h', 1), 1).due("feed", x.feed('a', 1), 2).due("feed", x.feed('t', 1), 3);
        e.due("count(1)", x.count(1), 3);
        e.due("shop()", x.shop(), 1).due("feed, on an empty tape again", x.feed('h', 1), 1);
    }

    private static void feedBeyond() {
        Edge e = Edge.promise(31, "BEYOND: n.");
        HeadHats x = new HeadHats();
        e.beyond("feed(104, 0)", x.feed(104, 0)).beyond("feed(104, -1)", x.feed(104, -1)).beyond("feed(104, 5)", x.feed(104, 5));
        e.beyond("feed(104, MIN)", x.feed(104, MIN)).beyond("feed(104, MAX)", x.feed(104, MAX)).due("count(1)", x.count(1), 0);
        e.due("feed(MIN, 4), any number", x.feed(MIN, 4), 4).due("feed(-1, 1)", x.feed(-1, 1), 5).due("shop()", x.shop(), -1);
    }

    private static void feedFull() {
        Edge e = Edge.promise(31, "FULL.");
        for (int n = 1; n <= 4; n++) {
            HeadHats x = new HeadHats();
            Due.feed(x, BLANKS.substring(n));
            e.due("feed(.., " + n + "), to 120", x.feed(0x20202020, n), 120).due("feed(.., 1), to 121", x.feed(32, 1), Due.FULL);
            HeadHats y = new HeadHats();
            Due.feed(y, BLANKS.substring(n - 1));
            e.due("feed(.., " + n + "), to 121", y.feed(0x20202020, n), Due.FULL);
            e.due("count(1), none of them came", y.count(1), 121 - n);
            e.beyond("feed(.., 0), asked first", y.feed(32, 0)).beyond("feed(.., 5), asked first", y.feed(32, 5));
            e.beyond("feed(.., MAX), asked first", y.feed(32, MAX));
            e.due("status(1)", y.status(1), 1).due("shop(), as it was", y.shop(), -1 - (121 - n));
            e.due("feed(.., " + n + "), room again", y.feed(0x20202020, n), n);
        }
    }

    private static void wipeEmpties() {
        Edge e = Edge.promise(32, "THE TAPE is empty: how many it had.");
        HeadHats x = new HeadHats();
        e.due("wipe(), of none", x.wipe(), 0);
        x.feed(104, 1);
        e.due("wipe(), of one", x.wipe(), 1).due("wipe(), again", x.wipe(), 0).due("count(1)", x.count(1), 0);
        Due.feed(x, BLANKS);
        e.due("wipe(), of 120", x.wipe(), 120).due("feed, room again", x.feed(0x68617420, 4), 4).due("shop()", x.shop(), 1);
        e.due("status(-1)", x.status(-1), 0);
    }

    private static void shopEmptiesTheTape() {
        Edge e = Edge.promise(33, "THE TAPE is THE TEXT of a SHOP, whose ITEMS come to what there is, and empty then: how many ITEMS.");
        HeadHats x = good(e, "hat;head;moths;none", 4);
        e.due("shop(), of an empty tape", x.shop(), -1).due("count(0)", x.count(0), 1).due("count(2)", x.count(2), 1);
    }

    private static void shopComesToWhatThereIs() {
        Edge e = Edge.promise(33, "whose ITEMS come to what there is");
        HeadHats x = Due.shopOf("straw holds 1 pledge 1;head has 1 bald;moths");
        x.weeks(2);
        x.mind(0, 2, 70);
        e.due("shop()", read(x, "felt holds 6;head has 6"), 2).due("count(0)", x.count(0), 2).due("count(2)", x.count(2), 2);
        e.due("of(0, 0)", x.of(0, 0), 2).due("of(0, 3)", x.of(0, 3), 5).due("of(0, 2)", x.of(0, 2), 1);
        e.due("about(0, 1)", x.about(0, 1), 1);
        e.due("about(0, 2)", x.about(0, 2), 70).due("now(0)", x.now(0), 2).due("now(4)", x.now(4), 1);
        e.due("of(1, 0)", x.of(1, 0), 1).due("of(1, 3)", x.of(1, 3), 18).due("about(1, 0)", x.about(1, 0), 6);
    }

    private static void tokensAsLongAsCanBe() {
        Edge e = Edge.term(33, "TOKENS, each as long as can be");
        bad(e, "hathat", 0);
        bad(e, "hatholds 1", 0);
        bad(e, "headhas 1", 0);
        bad(e, "hat holdspledge 1", 4);
        bad(e, "hat holds 40 95", 13);
        bad(e, "hat holds 4 095", 12);
        bad(e, "fe lt", 0);
        bad(e, "hat holds 1 pledge1 0", 20);
        good(e, "hat holds1pledge2;head has3bald", 2);
    }

    private static void wordsOfSmallLetters() {
        Edge e = Edge.term(33, "WORDS (letters a to z)");
        bad(e, "HAT", 0);
        bad(e, "haT", 0);
        bad(e, "hat`", 3);
        bad(e, "hat{", 3);
        bad(e, "hat@", 3);
        bad(e, "hat[", 3);
        bad(e, "hatA", 3);
        bad(e, "hatZ", 3);
        bad(e, "hat_", 3);
        // A word that goes on with a or z is another word; one that goes on with any other byte ends there.
        bad(e, "hat;hata", 4);
        bad(e, "hat;hatz", 4);
        bad(e, "hat;ahat", 4);
        bad(e, "hat;zhat", 4);
    }

    private static void numbersOfDigits() {
        Edge e = Edge.term(33, "NUMBERS (digits, ..)");
        HeadHats x = good(e, "hat holds 1234 pledge 56;hat holds 789 pledge 09", 2);
        e.due("of(0, 1)", x.of(0, 1), 1234).due("of(0, 2)", x.of(0, 2), 56).due("of(1, 1)", x.of(1, 1), 789);
        e.due("of(1, 2)", x.of(1, 2), 9);
        HeadHats y = good(e, "hat holds 0000000000000004095 pledge 000000000000000000000099;head has 00000000000000000000000", 2);
        e.due("of(0, 1), nought ahead", y.of(0, 1), 4095).due("of(0, 2)", y.of(0, 2), 99).due("about(0, 0)", y.about(0, 0), 0);
        bad(e, "hat holds -1", 10);
        bad(e, "hat holds +1", 10);
        bad(e, "hat holds 1/", 11);
        bad(e, "hat holds 1:", 11);
        bad(e, "hat holds /", 10);
        bad(e, "hat holds :", 10);
        bad(e, "hat holds 1.5", 11);
        bad(e, "hat holds 0x1", 11);
        bad(e, "hat holds 1a", 11);
    }

    private static void numbersAtMost9999() {
        Edge e = Edge.term(33, "NUMBERS (.. 9999 at most)");
        bad(e, "hat holds 9999", 10);
        bad(e, "hat holds 10000", 10);
        bad(e, "hat holds 10001", 10);
        // Numbers that would be small ones if only their lowest bits were looked at.
        bad(e, "hat holds 65536", 10);
        bad(e, "hat holds 4294967296", 10);
        bad(e, "hat holds 4294967297", 10);
        bad(e, "hat holds 18446744073709551616", 10);
        bad(e, "hat pledge 4294967296", 11);
        bad(e, "head has 4294967301", 9);
        bad(e, "hat holds 2147483648", 10);
        bad(e, "hat holds " + "9".repeat(110), 10);
        bad(e, "hat holds 1" + "0".repeat(109), 10);
        bad(e, "9999", 0);
        bad(e, "10000", 0);
        bad(e, "hat 10000", 4);
    }

    private static void signs() {
        Edge e = Edge.term(33, "TEXT: ITEM { ; ITEM }.");
        good(e, "hat", 1);
        good(e, "hat;hat", 2);
        good(e, "hat;hat;hat", 3);
        bad(e, ";", 0);
        bad(e, ";hat", 0);
        bad(e, "hat;", 4);
        bad(e, "hat;;hat", 4);
        bad(e, "hat hat", 4);
        bad(e, "hat head", 4);
        bad(e, "head hat", 5);
        bad(e, "moths hat", 6);
        bad(e, "none none", 5);
        bad(e, "hat:hat", 3);
        bad(e, "hat<hat", 3);
        bad(e, "hat,hat", 3);
    }

    private static void blanksBetween() {
        Edge e = Edge.term(33, "blanks may stand between.");
        good(e, "   hat   holds   1   pledge   1   ;   head   has   1   bald   ;   moths   ", 3);
        bad(e, "hat!", 3);
        bad(e, "hat\"", 3);
        bad(e, "hat\u001f", 3);
        bad(e, "hat\t", 3);
        bad(e, "hat\n", 3);
        bad(e, "hat\r", 3);
        bad(e, "\thead", 0);
        bad(e, "hat \u00a0", 4);
    }

    private static void namesOfKinds() {
        Edge e = Edge.term(33, "the name of a KIND (hat felt straw feather mitre brim)");
        String[] names = {"hat", "felt", "straw", "feather", "mitre", "brim"};
        for (int k = 0; k < 6; k++) {
            HeadHats x = good(e, names[k], 1);
            e.due("of(0, 0)", x.of(0, 0), k).due("of(0, 1)", x.of(0, 1), 0).due("of(0, 2)", x.of(0, 2), 5);
            e.due("count(2)", x.count(2), 0);
            bad(e, names[k] + "s", 0);
            bad(e, names[k].substring(1), 0);
            bad(e, names[k].substring(0, names[k].length() - 1), 0);
            bad(e, names[k].substring(0, names[k].length() - 1) + "x", 0);
            bad(e, "x" + names[k].substring(1), 0);
        }
    }

    private static void holdsASet() {
        Edge e = Edge.term(33, "perhaps holds and a NUMBER (a set of THOUGHTS; each FRESH 9)");
        HeadHats x = good(e, "straw holds 0;straw holds 1;straw holds 2048;straw holds 4095", 4);
        int[] sets = {0, 1, 2048, 4095};
        for (int h = 0; h < 4; h++) {
            e.due("of(" + h + ", 1)", x.of(h, 1), sets[h]).due("of(" + h + ", 3)", x.of(h, 3), 9 * Integer.bitCount(sets[h]));
            e.due("told(" + h + ", 11)", x.told(h, 11), h < 2 ? 0 : 9);
        }
        bad(e, "straw holds 4096", 12);
        bad(e, "straw holds 8191", 12);
    }

    private static void pledges() {
        Edge e = Edge.term(33, "perhaps pledge and a NUMBER (0 to 99)");
        HeadHats x = good(e, "hat pledge 0;hat pledge 99;hat holds 4095 pledge 99;hat", 4);
        int[] due = {0, 99, 99, 5};
        for (int h = 0; h < 4; h++) {
            e.due("of(" + h + ", 2)", x.of(h, 2), due[h]);
        }
        bad(e, "hat pledge 100", 11);
        bad(e, "hat holds 4095 pledge 100", 22);
        bad(e, "hat pledge 4095", 11);
    }

    private static void hatParts() {
        Edge e = Edge.term(33, "the name of a KIND .., perhaps holds and a NUMBER .., perhaps pledge and a NUMBER ..: a new HAT");
        bad(e, "hat pledge 1 holds 1", 13);
        bad(e, "hat holds 1 holds 1", 12);
        bad(e, "hat pledge 1 pledge 1", 13);
        bad(e, "hat has 1", 4);
        bad(e, "hat bald", 4);
        bad(e, "hat 1", 4);
        bad(e, "holds 1", 0);
        bad(e, "pledge 1", 0);
        bad(e, "hat holds holds", 10);
        bad(e, "hat holds pledge 1", 10);
        bad(e, "hat holds;", 9);
        bad(e, "hat pledge;", 10);
        bad(e, "hat holds 1 bald", 12);
        bad(e, "hat hold 1", 4);
        bad(e, "hat holdss 1", 4);
        bad(e, "hat pledg 1", 4);
    }

    private static void heads() {
        Edge e = Edge.term(33, "head, perhaps has and a NUMBER (a set), perhaps bald: a new HEAD");
        HeadHats x = good(e, "head;head has 0;head has 4095;head bald;head has 2048 bald", 5);
        int[] sets = {0, 0, 4095, 0, 2048};
        for (int d = 0; d < 5; d++) {
            e.due("about(" + d + ", 0)", x.about(d, 0), sets[d]).due("about(" + d + ", 1)", x.about(d, 1), d < 3 ? 0 : 1);
            e.due("about(" + d + ", 2)", x.about(d, 2), 0);
        }
        bad(e, "head has 4096", 9);
        bad(e, "head bald has 1", 10);
        bad(e, "head bald bald", 10);
        bad(e, "head has 1 has 1", 11);
        bad(e, "head has bald", 9);
        bad(e, "head has;", 8);
        bad(e, "head holds 1", 5);
        bad(e, "head pledge 1", 5);
        bad(e, "head has 1 bald 1", 16);
        bad(e, "head 1", 5);
        bad(e, "has 1", 0);
        bad(e, "bald", 0);
        bad(e, "heads", 0);
        bad(e, "hea", 0);
    }

    private static void mothsOrNone() {
        Edge e = Edge.term(33, "moths or none.");
        e.due("now(4), of moths", good(e, "moths", 1).now(4), 1).due("now(4), of none", good(e, "none", 1).now(4), 0);
        e.due("now(4), the latest", good(e, "moths;none", 2).now(4), 0).due("now(4)", good(e, "none;moths", 2).now(4), 1);
        HeadHats x = Due.shopOf("moths");
        e.due("shop() of a hat", read(x, "hat"), 1).due("now(4), as it was", x.now(4), 1).due("shop() of none", read(x, "none"), 1);
        e.due("now(4)", x.now(4), 0);
        bad(e, "moth", 0);
        bad(e, "mothss", 0);
        bad(e, "non", 0);
        bad(e, "moths 1", 6);
        bad(e, "moths none", 6);
    }

    private static void faultAtNumber() {
        Edge e = Edge.term(33, "FAULT: the place (from 0) of the first byte of the first TOKEN that can't stand there (a NUMBER that may not be, ..)");
        bad(e, "hat holds   4096;", 12);
        bad(e, "hat;hat holds 0004096", 14);
        bad(e, "none;head has 4096 bald", 14);
        bad(e, "none;hat pledge 0100", 16);
        bad(e, "5", 0);
        bad(e, "hat;5", 4);
    }

    private static void faultAtWord() {
        Edge e = Edge.term(33, "FAULT: .. (.. another WORD, ..)");
        bad(e, "cat", 0);
        bad(e, "   cat", 3);
        bad(e, "hat;  cat", 6);
        bad(e, "hat cat", 4);
        bad(e, "hat holds cat", 10);
        bad(e, "hat pledge cat", 11);
        bad(e, "head cat", 5);
        bad(e, "head has cat", 9);
        bad(e, "none cat", 5);
        bad(e, "a", 0);
        bad(e, "z", 0);
    }

    private static void faultAtByte() {
        Edge e = Edge.term(33, "FAULT: .. (.. a byte that begins no TOKEN, ..)");
        for (int b = 0; b < 256; b++) {
            boolean begins = b == ' ' || b == ';' || b >= '0' && b <= '9' || b >= 'a' && b <= 'z';
            HeadHats x = new HeadHats();
            Due.feed(x, "none ");
            x.feed(b, 1);
            // A word or a number can't stand there either; after the sign or a blank the text goes on.
            int want = b == ' ' ? 1 : b == ';' ? -1 - 6 : -1 - 5;
            e.due("shop() of none and byte " + b, x.shop(), want);
            if (!begins) {
                Due.feed(x, "hat");
                x.feed(b, 1);
                Due.feed(x, ";head");
                e.due("shop() with byte " + b, x.shop(), -1 - 3);
                x.feed(b, 1);
                Due.feed(x, "hat");
                e.due("shop() with byte " + b + " first", x.shop(), -1);
            }
        }
    }

    private static void faultEndsTooEarly() {
        Edge e = Edge.term(33, "FAULT: .. or how many bytes there are if it ends too early.");
        bad(e, "", 0);
        bad(e, " ", 1);
        bad(e, BLANKS, 120);
        bad(e, "hat;", 4);
        bad(e, "hat;  ", 6);
        bad(e, "hat holds", 9);
        bad(e, "hat holds  ", 11);
        bad(e, "hat pledge", 10);
        bad(e, "hat pledge ", 11);
        bad(e, "hat holds 1 pledge", 18);
        bad(e, "head has", 8);
        bad(e, "head has ", 9);
        bad(e, "none" + " ".repeat(115) + ";", 120);
    }

    private static void faultIsTheFirst() {
        Edge e = Edge.term(33, "the first byte of the first TOKEN that can't stand there");
        bad(e, "cat;dog", 0);
        bad(e, "hat holds 4096 pledge 100", 10);
        bad(e, "hat pledge 100;cat;!", 11);
        bad(e, "hat;!;cat", 4);
        bad(e, BLANKS.substring(1) + "x", 119);
        bad(e, "hat" + BLANKS.substring(4) + "!", 119);
    }

    private static void fault9thHat() {
        Edge e = Edge.term(33, "FAULT: .. (.. the name of a KIND for a 9th HAT, ..: its own)");
        bad(e, "hat;hat;hat;hat;hat;hat;hat;hat;hat", 32);
        bad(e, "hat;hat;hat;hat;hat;hat;hat;hat; brim holds 9999", 33);
        HeadHats x = Due.shopOf("hat;hat;hat;hat;hat;hat;hat");
        e.due("shop(), an 8th and a 9th", read(x, "felt;felt"), -6).due("count(0)", x.count(0), 7);
        e.due("shop(), an 8th", read(x, "mitre holds 1"), 1).due("count(0)", x.count(0), 8);
        String[] names = {"hat", "felt", "straw", "feather", "mitre", "brim"};
        for (String name : names) {
            e.due("shop() of none;" + name, read(x, "none;" + name), -6);
        }
        e.due("shop() of cat;hat, the cat first", read(x, "none;cat;hat"), -6).due("shop() of another word", read(x, "hats"), -1);
        e.due("shop() of head, of which there is room", read(x, "head;moths"), 2).due("count(0)", x.count(0), 8);
        e.due("of(7, 0)", x.of(7, 0), 4).due("status(-1), no finding", x.status(-1), 0);
    }

    private static void fault7thHead() {
        Edge e = Edge.term(33, "FAULT: .. (.. head for a 7th: its own)");
        bad(e, "head;head;head;head;head;head;head", 30);
        bad(e, "head;head;head;head;head;head; head has 9999", 31);
        HeadHats x = Due.shopOf("head;head;head;head;head");
        e.due("shop(), a 6th and a 7th", read(x, "head;head"), -6).due("count(2)", x.count(2), 5);
        e.due("shop(), a 6th", read(x, "head has 9"), 1).due("about(5, 0)", x.about(5, 0), 9);
        e.due("shop(), a 7th", read(x, "head"), -1);
        e.due("shop(), a 7th", read(x, "hat;head bald"), -5).due("count(0)", x.count(0), 0);
        e.due("shop() of a hat", read(x, "hat;none"), 2);
        e.due("count(2)", x.count(2), 6).due("status(-1), no finding", x.status(-1), 0);
    }

    private static void faultChangesNothing() {
        Edge e = Edge.promise(33, "With a FAULT: -1 less its place (nothing changes but that THE TAPE is empty; no finding).");
        HeadHats x = Due.shopOf("straw holds 5 pledge 6;head has 7 bald");
        x.image();
        x.turn(0, 5);
        x.mind(0, 2, 9);
        x.weeks(1);
        e.due("shop()", read(x, "hat holds 4095 pledge 1;head has 8;moths;brim;head;cat"), -52);
        e.due("count(0)", x.count(0), 1).due("count(1)", x.count(1), 0).due("count(2)", x.count(2), 1);
        e.due("count(3)", x.count(3), 6);
        e.due("now(0)", x.now(0), 1).due("now(1)", x.now(1), 16).due("now(2)", x.now(2), 5).due("now(3)", x.now(3), 7);
        e.due("now(4)", x.now(4), 0);
        e.due("now(5)", x.now(5), 9).due("of(0, 0)", x.of(0, 0), 5).due("about(0, 1)", x.about(0, 1), 1);
        e.due("status(-1)", x.status(-1), 0);
        e.due("undo(), the image stays", x.undo(), 1).due("of(0, 0)", x.of(0, 0), 2).due("now(1)", x.now(1), 18);
        e.due("feed, the tape is empty", x.feed(104, 1), 1);
    }

    private static void longestText() {
        Edge e = Edge.term(33, "THE TAPE (bytes, at most 120)");
        HeadHats x = good(e, "none;".repeat(23) + "moths", 24);
        e.due("now(4)", x.now(4), 1);
        good(e, "hat" + " ".repeat(117), 1);
        good(e, " ".repeat(117) + "hat", 1);
        HeadHats y = good(e, "hat holds " + "0".repeat(106) + "4095", 1);
        e.due("of(0, 1)", y.of(0, 1), 4095);
        bad(e, "none;".repeat(24), 120);
        bad(e, "a".repeat(120), 0);
    }
}
