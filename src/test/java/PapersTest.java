/** Promises 5 to 8: sale, heir, disown, death. */
public final class PapersTest {
    private static final Check c = new Check();

    public static void main(String[] args) {
        saleOfParts();
        saleRefusals();
        heirs();
        heirRefusals();
        disowned();
        deathPartsByWeights();
        deathEndsLetsAndPassesDebts();
        deathKeepsTheRest();
        deathRefusals();
        c.end();
    }

    private static void saleOfParts() {
        BazaarBook x = new BazaarBook();
        x.shop(3, 1, 1);
        x.shop(3, 1, 1);
        c.due(x.sale(101, 34, 5000), 5000);
        c.due(x.has(1, 1, 3), 40);
        c.due(x.has(1, 1, 4), 5000);
        c.due(x.has(1, 0, 3), 5040);
        c.due(x.has(0, 1, 3), 5040);
        c.due(x.sale(101, 34, 5000), 40);
        c.due(x.sale(101, 34, 1), 0);
        c.due(x.sale(101, 43, 5040), 5040);
        c.due(x.sale(0, 30, 1), 1);
        c.due(x.has(0, 0, 0), 1);
        c.due(x.sale(0, 2, 9), 1);
        c.due(x.has(0, 0, 0), 0);
        c.due(x.has(0, 0, 2), 1);
    }

    private static void saleRefusals() {
        BazaarBook x = new BazaarBook();
        c.due(x.sale(0, 1, 1), -3);
        x.shop(0, 1, 1);
        c.due(x.sale(-1, 1, 1), -3);
        c.due(x.sale(-100, 1, 1), -3);
        c.due(x.sale(1, 1, 1), -3);
        c.due(x.sale(101, 1, 1), -3);
        c.due(x.sale(0, -1, 1), -3);
        c.due(x.sale(0, 100, 1), -3);
        c.due(x.sale(201, 1, 1), -3);
        c.due(x.sale(200, 100, 1), -3);
        c.due(x.sale(200, 1, 1), -5);
        c.due(x.sale(200, 11, 0), -5);
        c.due(x.sale(Integer.MAX_VALUE - 47, 1, 1), -5);
        c.due(x.sale(0, 1, 0), -7);
        c.due(x.sale(0, 1, -1), -7);
        c.due(x.sale(0, 1, 5041), -7);
        c.due(x.sale(0, 0, 1), -7);
        c.due(x.sale(0, 99, 1), -7);
        c.due(x.has(0, 0, 0), 5040);
        c.due(x.has(0, 1, 0), 5040);
        c.due(x.status(-3), 9);
        c.due(x.status(-5), 3);
        c.due(x.status(-7), 5);
    }

    private static void heirs() {
        BazaarBook x = new BazaarBook();
        c.due(x.heir(4, 3, 1), 1);
        c.due(x.heir(4, 2, 9), 2);
        c.due(x.heir(4, 1, 1), 3);
        c.due(x.heir(5, 4, 1), 1);
        c.due(x.heir(3, 4, 1), 1);
        c.due(x.heir(4, 0, 1), 4);
        c.due(x.heir(4, 9, 1), -8);
        c.due(x.disown(4), 4);
    }

    private static void heirRefusals() {
        BazaarBook x = new BazaarBook();
        c.due(x.heir(10, 1, 1), -3);
        c.due(x.heir(-1, 1, 1), -3);
        c.due(x.heir(1, 10, 1), -3);
        c.due(x.heir(1, -1, 0), -3);
        c.due(x.heir(10, 10, 1), -3);
        c.due(x.heir(1, 2, 0), -7);
        c.due(x.heir(1, 2, 10), -7);
        c.due(x.heir(1, 2, -1), -7);
        c.due(x.heir(1, 1, 1), -7);
        c.due(x.heir(1, 2, 1), 1);
        c.due(x.heir(1, 2, 2), -7);
        x.heir(1, 3, 1);
        x.heir(1, 4, 1);
        x.heir(1, 5, 1);
        c.due(x.heir(1, 5, 1), -7);
        c.due(x.heir(1, 6, 0), -7);
        c.due(x.heir(1, 1, 1), -7);
        c.due(x.heir(1, 6, 1), -8);
        c.due(x.disown(1), 4);
    }

    private static void disowned() {
        BazaarBook x = new BazaarBook();
        x.heir(7, 1, 1);
        x.heir(7, 2, 1);
        x.heir(8, 2, 1);
        c.due(x.disown(7), 2);
        c.due(x.disown(7), 0);
        c.due(x.death(7), -2);
        c.due(x.heir(7, 2, 1), 1);
        c.due(x.disown(8), 1);
        c.due(x.disown(10), -3);
        c.due(x.disown(-1), -3);
    }

    private static void deathPartsByWeights() {
        BazaarBook x = new BazaarBook();
        x.shop(0, 1, 1);
        x.shop(1, 1, 1);
        // of 100 parts, by 2, 3 and 2 of 7: 28, 42, 28, and 2 over for the first
        x.sale(1, 10, 100);
        x.heir(0, 5, 2);
        x.heir(0, 4, 3);
        x.heir(0, 1, 2);
        c.due(x.death(0), 5040 + 5040 + 100);
        c.due(x.has(1, 0, 5), 30);
        c.due(x.has(1, 0, 4), 42);
        c.due(x.has(1, 0, 1), 4940 + 28);
        c.due(x.has(1, 0, 0), 0);
        c.due(x.has(1, 1, 1), 5040);
        c.due(x.has(0, 0, 5), 1440);
        c.due(x.has(0, 0, 4), 2160);
        c.due(x.has(0, 1, 1), 1440);
        c.due(x.has(0, 1, 0), 0);
        c.due(x.death(0), 0);
        c.due(x.sale(1, 40, 1), 1);
        c.due(x.death(0), 1);
        c.due(x.has(1, 0, 5), 31);
    }

    private static void deathEndsLetsAndPassesDebts() {
        BazaarBook x = new BazaarBook();
        x.shop(1, 500, 1);
        x.shop(1, 500, 1);
        x.shop(1, 500, 1);
        x.let(0, 12, 9, 5);
        x.let(1, 13, 9, 5);
        x.let(2, 12, 9, 5);
        x.pawn(0, 2, 10);
        x.pawn(0, 4, 20);
        x.pawn(0, 2, 30);
        x.pawn(2, 2, 40);
        x.heir(2, 6, 1);
        x.heir(2, 5, 9);
        c.due(x.death(2), 0);
        c.due(x.look(0, 4), -1);
        c.due(x.look(0, 5), -1);
        c.due(x.look(0, 6), -1);
        c.due(x.look(1, 4), 3);
        c.due(x.look(2, 4), -1);
        c.due(x.count(4), 1);
        c.due(x.pawned(0, 0, 0), 6);
        c.due(x.pawned(0, 1, 0), 4);
        c.due(x.pawned(0, 2, 0), 6);
        c.due(x.pawned(0, 2, 1), 30);
        c.due(x.pawned(2, 0, 0), 6);
        c.due(x.count(5), 4);
    }

    private static void deathKeepsTheRest() {
        BazaarBook x = new BazaarBook();
        x.shop(1, 500, 1);
        x.let(0, 12, 9, 5);
        x.heir(1, 3, 4);
        x.sold(0, 1, 70);
        c.due(x.death(1), 10080);
        c.due(x.purse(1), 70);
        c.due(x.purse(3), 0);
        c.due(x.look(0, 4), 2);
        c.due(x.disown(1), 1);
    }

    private static void deathRefusals() {
        BazaarBook x = new BazaarBook();
        c.due(x.death(-1), -3);
        c.due(x.death(10), -3);
        c.due(x.death(0), -2);
        x.shop(0, 1, 1);
        x.let(0, 0, 5, 5);
        c.due(x.death(0), -2);
        c.due(x.has(0, 0, 0), 5040);
        c.due(x.look(0, 4), 0);
        c.due(x.status(-2), 2);
        c.due(x.status(-3), 2);
    }
}
