import java.util.ArrayList;
import java.util.List;

/** Shops made alike, and all that can be seen of one: a call that changes nothing leaves it the same as a twin without that call. */
final class Twins {
    /** What is done to a shop: a call and its answer, or the making of a state. */
    interface Act {
        long on(HeadHats x);
    }

    /** Nothing at all. */
    static final Act EMPTY = x -> 0;

    /** Three hats, two heads; sheets 0 to 2 of 3, 4 and 2 numbers, sheet 3 missing; something on the tape and an image kept. */
    static final Act SOME = x -> {
        Due.read(x, "straw holds 73 pledge 7;hat holds 2049;felt holds 7 pledge 99;head has 3 bald;head has 2052;moths");
        x.image();
        x.fresh(0, 4, 2);
        x.turn(1, 3);
        x.mind(0, 2, 4);
        x.weeks(3);
        sheets(x);
        Due.feed(x, "hat;none");
        return 0;
    };

    /** As many hats, heads and bytes as can be, but for two bytes. */
    static final Act FULL = x -> {
        Due.read(x, "hat holds 1;felt holds 2;straw holds 3;feather holds 4;mitre holds 5;brim holds 6;hat;hat pledge 0;head;head has 1");
        Due.read(x, "head has 2;head has 4;head has 8 bald;head has 16");
        x.image();
        x.weeks(2);
        sheets(x);
        Due.feed(x, "none;moths" + " ".repeat(108));
        return 0;
    };

    /** As SOME, in the last week. */
    static final Act LATE = x -> {
        for (int i = 0; i < 166; i++) {
            x.weeks(60);
        }
        x.weeks(36);
        return SOME.on(x);
    };

    private Twins() {
    }

    private static void sheets(HeadHats x) {
        x.sheet(0, 8, 3);
        x.sheet(1, 16, 4);
        x.sheet(2, 64, 2);
        x.write(0, 0, 100);
        x.write(0, 1, -3);
        x.write(1, 3, 300);
        x.write(2, 1, Long.MIN_VALUE + 5);
    }

    static HeadHats made(Act state) {
        HeadHats x = new HeadHats();
        state.on(x);
        return x;
    }

    /** Everything but status() that the calls tell of a shop; it is used up then. */
    static List<Long> seen(HeadHats x) {
        List<Long> all = new ArrayList<>();
        seeShop(x, all);
        for (int s = 0; s < 4; s++) {
            seeSheet(x, s, all);
        }
        all.add((long) x.count(1));
        all.add((long) x.shop());
        all.add((long) x.count(0));
        all.add((long) x.now(4));
        all.add((long) x.undo());
        seeShop(x, all);
        all.add((long) x.tear());
        return all;
    }

    private static void seeShop(HeadHats x, List<Long> all) {
        int hats = x.count(0);
        int heads = x.count(2);
        all.add((long) hats);
        all.add((long) heads);
        for (int what = 0; what <= 5; what++) {
            all.add((long) x.now(what));
        }
        for (int h = 0; h < hats; h++) {
            all.add((long) x.of(h, 0));
            all.add((long) x.of(h, 2));
            for (int t = 0; t < 12; t++) {
                all.add((long) x.told(h, t));
            }
        }
        for (int d = 0; d < heads; d++) {
            for (int what = 0; what <= 2; what++) {
                all.add((long) x.about(d, what));
            }
        }
    }

    /** Its numbers, one by one until there is no more; what is left of a long number tells its bits. */
    private static void seeSheet(HeadHats x, int s, List<Long> all) {
        for (int i = 0; i < 6; i++) {
            long was = x.write(s, i, 0x123456789abcdefL);
            all.add(was);
            if (was == Due.BEYOND || was == Due.MISSING) {
                return;
            }
            all.add(x.write(s, i, was));
        }
    }

    static long[] statuses(HeadHats x) {
        long[] all = new long[8];
        for (int which = -1; which <= 6; which++) {
            all[which + 1] = x.status(which);
        }
        return all;
    }
}
