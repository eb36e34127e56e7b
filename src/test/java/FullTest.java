/** Every count at its limit at once: 14 shops, 8 pawns on each, 4 heirs of each person, 10 rules, 80 bytes. */
public final class FullTest {
    private static final Check c = new Check();

    public static void main(String[] args) {
        BazaarBook x = fullBook();
        counts(x);
        fire(x);
        rules(x);
        arches(x);
        rights(x);
        daysAndSales(x);
        c.end();
    }

    /** Shop s is on street s % 5, under arch s % 6, with person s % 10, of worth 1000 + s. */
    private static BazaarBook fullBook() {
        BazaarBook x = new BazaarBook();
        for (int s = 0; s < 14; s++) {
            c.due(x.shop(100 * (s % 5) + 10 * (s % 6) + s % 10, 1000 + s, 1), s);
            for (int i = 0; i < 8; i++) {
                c.due(x.pawn(s, i, 100), i + 1);
            }
            c.due(x.let(s, 10 * (s % 10) + 9, 50, 10), 1);
        }
        for (int p = 0; p < 10; p++) {
            for (int h = 1; h <= 4; h++) {
                c.due(x.heir(p, (p + h) % 10, h), h);
            }
        }
        for (int r = 0; r < 10; r++) {
            String text = (r % 2 == 0 ? "ban " : "tax ") + r + " if good=" + r + " and good<10 and not good>9";
            c.due(Check.rule(x, text, 0, 100000), r);
        }
        for (int i = 1; i <= 20; i++) {
            c.due(x.feed(-1, 4), 4 * i);
        }
        return x;
    }

    private static void counts(BazaarBook x) {
        int[] due = {0, 14, 10, 80, 14, 112};
        for (int what = 0; what < due.length; what++) {
            c.due(x.count(what), due[what]);
        }
        c.due(x.shop(0, 1, 1), -8);
        c.due(x.pawn(13, 0, 1), -8);
        c.due(x.heir(9, 8, 1), -8);
        c.due(x.feed(0, 1), -8);
        c.due(x.rule(0, 1), -8);
        c.due(x.pawned(13, 7, 0), 7);
        c.due(x.pawned(13, 8, 0), -3);
        c.due(x.look(14, 0), -3);
    }

    private static void fire(BazaarBook x) {
        c.due(x.burns(13, 13, 0), 0);
        c.due(x.burns(13, 8, 0), 1);
        c.due(x.burns(13, 7, 0), 1);
        c.due(x.burns(13, 1, 0), 1);
        c.due(x.burns(13, 0, 0b01111111111110), -1);
        c.due(x.burns(13, 0, 0b11111111111110), -7);
        c.due(x.burns(0, 13, 0b01111111111110), -1);
        c.due(x.burns(0, 5, 0b01111111011110), 1);
        c.due(x.lost(13, 999, 0), 14 * 1000 + 91);
        c.due(x.lost(13, 1, 0), 4 * 1000 + 13 + 8 + 7 + 1);
        c.due(x.stop(13, 0, 2), 0);
        // the neighbours of 13 are 1, 7, 8: the two least of them are opened
        c.due(x.stop(13, 1, 2), 1 << 7 | 1 << 8);
    }

    private static void rules(BazaarBook x) {
        for (int good = 0; good < 10; good++) {
            c.due(x.may(3, 13, good), good % 2 == 0 ? 2 : 1);
            c.due(x.why(30 + good, 13, 0), good % 2 == 0 ? good : -1);
            c.due(x.why(30 + good, 13, 1), good % 2 == 0 ? 0 : good);
            c.due(x.why(30 + good, 13, 2), -1);
        }
    }

    private static void arches(BazaarBook x) {
        for (int a = 0; a < 6; a++) {
            c.due(x.takes(a, 9), 1);
        }
        // arches 0, 1 have three shops: streets 0 1 2 and 1 2 3; arches 2 to 5 two each:
        // 2 3, 3 4, 4 0, 0 1
        c.due(x.plan(0b000011), 18);
        c.due(x.plan(0b111111), 27);
        c.due(x.repair(1, 100), 3);
        c.due(x.purse(1), -34);
        c.due(x.purse(7), -33);
        c.due(x.purse(3), -33);
    }

    private static void rights(BazaarBook x) {
        for (int s = 0; s < 14; s++) {
            c.due(x.first(s, s % 10), -1);
            c.due(x.lay(s, s % 2), 10);
            c.due(x.row(s % 10), 5040);
        }
        // person 3 has shops 3 and 13; its heirs 4, 5, 6, 7 by 1, 2, 3, 4
        c.due(x.death(3), 4 * 5040);
        for (int h = 1; h <= 4; h++) {
            c.due(x.has(13, 1, 3 + h), 504 * h);
            c.due(x.has(3, 0, 3 + h), 504 * h);
        }
        c.due(x.pawned(13, 3, 0), 4);
        c.due(x.pawned(13, 7, 0), 7);
        c.due(x.count(4), 14);
        c.due(x.death(9), 2 * 5040);
        c.due(x.count(4), 0);
        c.due(x.has(9, 1, 0), 504);
    }

    private static void daysAndSales(BazaarBook x) {
        c.due(x.let(13, 78, 100, 7), 1);
        c.due(x.run(100), 700);
        c.due(x.purse(8), -700);
        c.due(x.sold(13, 0, 750), 0);
        c.due(x.look(13, 7), 1);
        c.due(x.pawned(13, 0, 0), 7);
        c.due(x.pay(13, 0), 50);
        c.due(x.pay(12, 7), 100);
        c.due(x.pay(12, 0), 100);
        c.due(x.pawned(12, 5, 0), 6);
        c.due(x.count(5), 112 - 8 - 2);
    }
}
