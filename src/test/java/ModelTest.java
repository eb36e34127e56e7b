import java.util.Random;

/** Long made-up runs of all calls, each answer held against PlainBook's. */
public final class ModelTest {
    private static final int RUNS = 300;
    /** Some steps make several calls: all of them stay near the 512 of an object's life. */
    private static final int STEPS = 250;
    private static final String[] RULES = {
        "ban 3", "ban 99 if good>5", "ban 99 if person=2 and not street=0", "tax 5", "tax 0 if shop<3",
        "tax 17 if arch=1", "ban 0007 if not good<4 and not shop>2 and arch<3", "tax 0000",
        "ban 4 if street>1", "tax 9999 if not person=1 and good=2", "ban 1 if good=1 and good=1", "ban 2 if",
        "tax 12345", "ban 5 if shops=1", "",
    };

    private static final Check c = new Check();

    private final Random random;
    private final BazaarBook book = new BazaarBook();
    private final PlainBook plain = new PlainBook();
    /** Most runs hold to a few persons, shops and arches, so that rights meet. */
    private final int persons;
    private final int wildness;
    private final boolean manyShops;
    private String call = "";

    private ModelTest(long seed) {
        random = new Random(seed);
        persons = 2 + random.nextInt(9);
        wildness = 4 + random.nextInt(40);
        manyShops = random.nextInt(3) > 0;
    }

    public static void main(String[] args) {
        for (int run = 0; run < RUNS && c.wrong() < 20; run++) {
            new ModelTest(run).go(run);
        }
        c.end();
    }

    private void go(int run) {
        int shops = manyShops ? 4 + random.nextInt(11) : random.nextInt(4);
        for (int i = 0; i < STEPS; i++) {
            int before = c.wrong();
            int which = i < shops ? 0 : random.nextInt(40);
            step(which);
            if (c.wrong() != before) {
                System.out.println("  in run " + run + ", step " + i);
                return;
            }
        }
    }

    private void same(long got, long want) {
        c.due(call, got, want);
    }

    private boolean wild() {
        return random.nextInt(wildness) == 0;
    }

    private int from(int least, int most) {
        if (wild()) {
            int[] edges = {least - 1, most + 1, least, most, -1, Integer.MIN_VALUE, Integer.MAX_VALUE, 0, 100};
            return edges[random.nextInt(edges.length)];
        }
        return least + random.nextInt(most - least + 1);
    }

    private int person() {
        return from(0, persons - 1);
    }

    private int pair() {
        return wild() ? from(0, 99) : 10 * random.nextInt(persons) + random.nextInt(persons);
    }

    private int place() {
        return from(0, Math.max(0, plain.count(1) - 1));
    }

    private int kind() {
        return from(0, 1);
    }

    private int small(int most) {
        return random.nextBoolean() ? from(0, most) : from(0, Math.min(most, 20));
    }

    private void step(int which) {
        int a;
        int b;
        int d;
        switch (which) {
            case 0:
                a = wild() ? from(0, 459) : 100 * random.nextInt(5) + 10 * random.nextInt(6) + random.nextInt(persons);
                b = random.nextBoolean() ? from(1, 9999) : from(1, 30);
                d = from(1, 9);
                call = "shop(" + a + ", " + b + ", " + d + ")";
                same(book.shop(a, b, d), plain.shop(a, b, d));
                break;
            case 1:
                a = place();
                b = from(0, 8);
                call = "look(" + a + ", " + b + ")";
                same(book.look(a, b), plain.look(a, b));
                break;
            case 2:
                a = place();
                b = kind();
                d = person();
                call = "has(" + a + ", " + b + ", " + d + ")";
                same(book.has(a, b, d), plain.has(a, b, d));
                break;
            case 3:
            case 4:
            case 5:
                a = wild() ? from(0, 320) : 100 * random.nextInt(2) + random.nextInt(Math.max(1, plain.count(1)));
                b = pair();
                d = random.nextBoolean() ? from(1, 5040) : from(1, 50);
                call = "sale(" + a + ", " + b + ", " + d + ")";
                same(book.sale(a, b, d), plain.sale(a, b, d));
                break;
            case 6:
            case 7:
                a = person();
                b = person();
                d = from(1, 9);
                call = "heir(" + a + ", " + b + ", " + d + ")";
                same(book.heir(a, b, d), plain.heir(a, b, d));
                break;
            case 8:
                a = person();
                call = "disown(" + a + ")";
                same(book.disown(a), plain.disown(a));
                break;
            case 9:
                a = person();
                call = "death(" + a + ")";
                same(book.death(a), plain.death(a));
                break;
            case 10:
            case 11:
                letOne();
                break;
            case 12:
            case 13:
                a = place();
                b = person();
                d = random.nextInt(3) == 0 ? from(1, 9999) : from(1, 40);
                call = "pawn(" + a + ", " + b + ", " + d + ")";
                same(book.pawn(a, b, d), plain.pawn(a, b, d));
                break;
            default:
                stepOn(which);
                break;
        }
    }

    private void letOne() {
        int a = place();
        int b = pair();
        int today = plain.count(0);
        int d = wild() ? from(0, 100000) : today + random.nextInt(60);
        int e = from(0, 999);
        call = "let(" + a + ", " + b + ", " + d + ", " + e + ")";
        same(book.let(a, b, d, e), plain.let(a, b, d, e));
    }

    private void stepOn(int which) {
        int a;
        int b;
        int d;
        switch (which) {
            case 14:
                a = place();
                b = from(0, 3);
                d = from(0, 1);
                call = "pawned(" + a + ", " + b + ", " + d + ")";
                same(book.pawned(a, b, d), plain.pawned(a, b, d));
                break;
            case 15:
                a = place();
                b = from(0, 2);
                call = "pay(" + a + ", " + b + ")";
                same(book.pay(a, b), plain.pay(a, b));
                break;
            case 16:
                a = place();
                b = person();
                d = small(99999);
                call = "sold(" + a + ", " + b + ", " + d + ")";
                same(book.sold(a, b, d), plain.sold(a, b, d));
                break;
            case 17:
                a = place();
                b = person();
                call = "first(" + a + ", " + b + ")";
                same(book.first(a, b), plain.first(a, b));
                break;
            case 18:
            case 19:
                a = person();
                call = "purse(" + a + ")";
                same(book.purse(a), plain.purse(a));
                break;
            case 20:
                a = random.nextInt();
                b = from(0, 4);
                call = "feed(" + a + ", " + b + ")";
                same(book.feed(a, b), plain.feed(a, b));
                break;
            case 21:
                call = "wipe()";
                same(book.wipe(), plain.wipe());
                break;
            case 22:
                ruleOne();
                break;
            case 23:
            case 24:
                a = person();
                b = place();
                d = from(0, 9);
                call = "may(" + a + ", " + b + ", " + d + ")";
                same(book.may(a, b, d), plain.may(a, b, d));
                break;
            case 25:
            case 26:
                a = from(0, 99);
                b = place();
                d = from(0, 2);
                call = "why(" + a + ", " + b + ", " + d + ")";
                same(book.why(a, b, d), plain.why(a, b, d));
                break;
            case 27:
                a = random.nextInt(4) == 0 ? from(1, 100) : from(1, 5);
                call = "run(" + a + ")";
                same(book.run(a), plain.run(a));
                break;
            default:
                stepFurther(which);
                break;
        }
    }

    private void ruleOne() {
        String text = RULES[random.nextInt(RULES.length)];
        book.wipe();
        plain.wipe();
        Check.feed(book, text);
        for (int i = 0; i < text.length(); i++) {
            plain.feed(text.charAt(i), 1);
        }
        int a = wild() ? from(0, 100000) : random.nextInt(300);
        int b = wild() ? from(0, 100000) : a + random.nextInt(300);
        call = "rule(" + a + ", " + b + ") of '" + text + "'";
        // which byte is at fault is looked at by FaultTest
        same(Math.max(-10, book.rule(a, b)), plain.rule(a, b));
    }

    private int someShops() {
        int set = 0;
        for (int i = random.nextInt(4); i > 0; i--) {
            set |= 1 << random.nextInt(Math.max(1, plain.count(1)));
        }
        return wild() ? from(0, 16383) : set;
    }

    private void stepFurther(int which) {
        int a;
        int b;
        int d;
        switch (which) {
            case 28:
                a = from(0, 5);
                b = small(99999);
                call = "repair(" + a + ", " + b + ")";
                same(book.repair(a, b), plain.repair(a, b));
                break;
            case 29:
                a = from(0, 5);
                b = from(1, 9);
                call = "takes(" + a + ", " + b + ")";
                same(book.takes(a, b), plain.takes(a, b));
                break;
            case 30:
                a = from(0, 63);
                call = "plan(" + a + ")";
                same(book.plan(a), plain.plan(a));
                for (int i = 0; i < 6; i++) {
                    call = "planned(" + i + ") after plan(" + a + ")";
                    same(book.planned(i, false), plain.planned(i, false));
                    same(book.planned(i, true), plain.planned(i, true));
                }
                break;
            case 31:
                a = from(0, 5);
                boolean when = random.nextBoolean();
                call = "planned(" + a + ", " + when + ")";
                same(book.planned(a, when), plain.planned(a, when));
                break;
            case 32:
                a = place();
                b = place();
                d = someShops();
                call = "burns(" + a + ", " + b + ", " + d + ")";
                same(book.burns(a, b, d), plain.burns(a, b, d));
                break;
            case 33:
                a = place();
                b = small(999);
                d = someShops();
                call = "lost(" + a + ", " + b + ", " + d + ")";
                same(book.lost(a, b, d), plain.lost(a, b, d));
                break;
            case 34:
                a = place();
                b = small(999);
                d = from(0, 2);
                call = "stop(" + a + ", " + b + ", " + d + ")";
                same(book.stop(a, b, d), plain.stop(a, b, d));
                break;
            case 35:
                a = from(0, 5);
                call = "count(" + a + ")";
                same(book.count(a), plain.count(a));
                break;
            case 36:
                a = place();
                b = kind();
                call = "lay(" + a + ", " + b + ")";
                same(book.lay(a, b), plain.lay(a, b));
                break;
            case 37:
                call = "tear()";
                same(random.nextInt(3) == 0 ? book.tear() - plain.tear() : 0, 0);
                break;
            case 38:
                a = from(0, 9);
                b = from(0, 9);
                d = from(0, 5);
                call = "copy(" + a + ", " + b + ", " + d + ")";
                same(book.copy(a, b, d), plain.copy(a, b, d));
                call = "row(" + a + ")";
                same(book.row(a), plain.row(a));
                break;
            default:
                a = from(-8, -2);
                call = "status(" + a + ")";
                same(book.status(a), plain.status(a));
                break;
        }
    }
}
