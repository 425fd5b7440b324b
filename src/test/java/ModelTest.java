import java.util.Random;

/** Long runs of calls, the same ones each time, whose answers must be those of the model. */
public final class ModelTest {
    private static final int RUNS = 400;
    private static final int CALLS = 512;
    private static final int[] ODD = {
        -1, 4096, 100, 10000, 61, 12, Integer.MIN_VALUE, Integer.MAX_VALUE, Integer.MIN_VALUE + 1, 1 << 30
    };
    private static final String[] WORDS = {
        "hat", "felt", "straw", "feather", "mitre", "brim", "head", "moths", "none", "holds", "has", "pledge", "bald",
        ";", ";", " ", " ", "0", "7", "99", "100", "4095", "4096", "10000", "!", "\u00ff", "hats", "A", "0000000012"
    };

    private final Random random;
    private final HeadHats x = new HeadHats();
    private final Model m = new Model();
    private final int run;

    private ModelTest(int run) {
        this.run = run;
        random = new Random(1000 + run);
    }

    public static void main(String[] args) {
        for (int run = 0; run < RUNS; run++) {
            new ModelTest(run).go();
        }
        Due.end();
    }

    private void go() {
        for (int call = 0; call < CALLS; call++) {
            // The first calls fill the shop, so that most of the later ones find something there.
            step(call < 12 && run % 4 != 0 ? random.nextInt(3) : random.nextInt(47), call);
        }
    }

    private int upTo(int most) {
        return random.nextInt(40) == 0 ? ODD[random.nextInt(ODD.length)] : random.nextInt(most + 1);
    }

    private int hat() {
        int many = x.count(0);
        m.count(0);
        return upTo(many == 0 || random.nextInt(30) == 0 ? many : many - 1);
    }

    private int head() {
        int many = x.count(2);
        m.count(2);
        return upTo(many == 0 || random.nextInt(30) == 0 ? many : many - 1);
    }

    private int set() {
        int few = (1 << random.nextInt(12)) | (1 << random.nextInt(12));
        return random.nextInt(30) == 0 ? upTo(4095) : random.nextInt(3) == 0 ? random.nextInt(4096) : few;
    }

    private int number() {
        return random.nextInt(3) == 0 ? random.nextInt() : random.nextInt(130) - 5;
    }

    private String text() {
        StringBuilder text = new StringBuilder();
        int items = 1 + random.nextInt(4);
        for (int i = 0; i < items; i++) {
            if (i > 0) {
                text.append(random.nextBoolean() ? ";" : " ; ");
            }
            text.append(item());
        }
        if (random.nextInt(3) == 0) {
            text.insert(random.nextInt(text.length() + 1), WORDS[random.nextInt(WORDS.length)]);
        }
        if (random.nextInt(6) == 0) {
            text.setLength(random.nextInt(text.length() + 1));
        }
        return text.toString();
    }

    private String item() {
        int which = random.nextInt(9);
        if (which == 8) {
            StringBuilder words = new StringBuilder();
            for (int i = 0; i < 4; i++) {
                words.append(WORDS[random.nextInt(WORDS.length)]).append(' ');
            }
            return words.toString();
        }
        if (which < 6) {
            String holds = random.nextBoolean() ? " holds " + random.nextInt(4096) : "";
            return WORDS[which] + holds + (random.nextBoolean() ? " pledge " + random.nextInt(100) : "");
        }
        if (which == 6) {
            return "head" + (random.nextBoolean() ? " has " + set() : "") + (random.nextBoolean() ? " bald" : "");
        }
        return random.nextBoolean() ? "moths" : "none";
    }

    private void same(String call, long got, long want) {
        Due.due(0, "run " + run + ": " + call, got, want);
    }

    private void step(int which, int call) {
        String name = "call " + call + " (" + which + ")";
        if (which < 15) {
            stepOfHats(which, name);
        } else if (which < 31) {
            stepOfWeeks(which, name);
        } else {
            stepOfSheets(which, name);
        }
    }

    private void stepOfHats(int which, String name) {
        int a;
        int b;
        int c;
        switch (which) {
            case 0 -> { a = upTo(5); same(name, x.hat(a), m.hat(a)); }
            case 1 -> { a = set(); same(name, x.head(a), m.head(a)); }
            case 2, 3, 4 -> { a = hat(); b = upTo(11); c = upTo(9); same(name, x.fresh(a, b, c), m.fresh(a, b, c)); }
            case 5 -> { a = hat(); b = upTo(4); same(name, x.of(a, b), m.of(a, b)); }
            case 6 -> { a = hat(); b = upTo(11); same(name, x.told(a, b), m.told(a, b)); }
            case 7 -> { a = hat(); b = upTo(99); same(name, x.pledge(a, b), m.pledge(a, b)); }
            case 8 -> { a = hat(); b = upTo(5); same(name, x.turn(a, b), m.turn(a, b)); }
            case 9 -> { a = hat(); b = upTo(5); same(name, x.as(a, b), m.as(a, b)); }
            case 10 -> { a = head(); b = upTo(2); same(name, x.about(a, b), m.about(a, b)); }
            case 11 -> { a = head(); b = upTo(2); c = new int[] {set(), upTo(1), upTo(9999)}[Math.floorMod(b, 3)];
                same(name, x.mind(a, b, c), m.mind(a, b, c)); }
            case 12 -> { a = upTo(1); same(name, x.moths(a), m.moths(a)); }
            case 13 -> { a = hat(); b = head(); same(name, x.takes(a, b), m.takes(a, b)); }
            default -> { a = hat(); b = head(); same(name, x.keeps(a, b), m.keeps(a, b)); }
        }
    }

    private void stepOfWeeks(int which, String name) {
        int a;
        int b;
        int c;
        switch (which) {
            case 15 -> { a = hat(); b = head(); same(name, x.tries(a, b), m.tries(a, b)); }
            case 16 -> { a = hat(); b = head(); same(name, x.redeem(a, b), m.redeem(a, b)); }
            case 17 -> { a = hat(); b = hat(); same(name, x.blend(a, b), m.blend(a, b)); }
            case 18 -> { a = hat(); b = hat(); same(name, x.stack(a, b), m.stack(a, b)); }
            case 19 -> { a = random.nextInt(8) == 0 ? upTo(60) : upTo(3); same(name, x.weeks(a), m.weeks(a)); }
            case 20 -> { a = upTo(5); same(name, x.now(a), m.now(a)); }
            case 21 -> { a = hat(); b = random.nextInt(4) == 0 ? upTo(60) : upTo(9); c = upTo(1);
                same(name, x.on(a, b, c), m.on(a, b, c)); }
            case 22 -> { a = hat(); b = upTo(11); same(name, x.gone(a, b), m.gone(a, b)); }
            case 23 -> { a = hat(); b = hat(); same(name, x.alike(a, b), m.alike(a, b)); }
            case 24 -> { a = head(); same(name, x.best(a), m.best(a)); }
            case 25 -> { a = head(); b = set(); same(name, x.row(a, b), m.row(a, b)); }
            case 26 -> { a = head(); b = set(); c = upTo(3); same(name, x.rows(a, b, c), m.rows(a, b, c)); }
            case 27 -> { a = hat(); b = head(); same(name, x.kind(a, b), m.kind(a, b)); }
            case 28 -> { a = hat(); b = random.nextInt(4) == 0 ? upTo(60) : upTo(9);
                same(name, x.lasting(a, b), m.lasting(a, b)); }
            case 29 -> { a = hat(); same(name, x.worn(a), m.worn(a)); }
            default -> { a = hat(); b = set(); same(name, x.before(a, b), m.before(a, b)); }
        }
    }

    private void stepOfSheets(int which, String name) {
        int a;
        int b;
        int c;
        int d;
        int e;
        switch (which) {
            case 31 -> { a = random.nextInt(); b = upTo(4); same(name, x.feed(a, b), m.feed(a, b)); }
            case 32 -> same(name, x.wipe(), m.wipe());
            case 33, 34 -> stepOfText(name);
            case 35 -> { a = upTo(3); b = new int[] {0, 8, 16, 64, 8, 16, 32}[random.nextInt(7)]; c = upTo(40);
                same(name, x.sheet(a, b, c), m.sheet(a, b, c)); }
            case 36, 37 -> { a = upTo(3); b = upTo(12); long v = random.nextInt(9) == 0 ? random.nextLong() : number();
                same(name, x.write(a, b, v), m.write(a, b, v)); }
            case 38 -> { a = upTo(3); b = upTo(9); c = upTo(3); d = upTo(9); e = upTo(12);
                same(name, x.copy(a, b, c, d, e), m.copy(a, b, c, d, e)); }
            case 39 -> { a = upTo(3); same(name, x.lays(a), m.lays(a)); }
            case 40 -> { a = upTo(3); b = hat(); same(name, x.book(a, b), m.book(a, b)); }
            case 41 -> { a = upTo(3); b = hat(); c = random.nextInt(2) == 0 ? b : hat();
                same(name, x.book(a, c), m.book(a, c)); same(name, x.read(a, b), m.read(a, b)); }
            case 42 -> same(name, x.image(), m.image());
            case 43 -> same(name, x.undo(), m.undo());
            case 44 -> { if (random.nextInt(4) == 0) { same(name, x.tear(), m.tear()); } }
            case 45 -> { a = upTo(3); same(name, x.count(a), m.count(a)); }
            default -> { a = upTo(7) - 1; same(name, x.status(a), m.status(a)); }
        }
    }

    private void stepOfText(String name) {
        same(name, x.wipe(), m.wipe());
        String text = text();
        for (int i = 0; i < text.length(); i++) {
            same(name, x.feed(text.charAt(i), 1), m.feed(text.charAt(i), 1));
        }
        same(name + " shop of \"" + text + "\"", x.shop(), m.shop());
    }
}
