/** Promises 1 to 4: a new object, shop, look, has. */
public final class ShopsTest {
    private static final Check c = new Check();

    public static void main(String[] args) {
        newObject();
        constants();
        shopNumbers();
        shopRefusals();
        shopEdges();
        lookAtShop();
        lookRefusals();
        hasParts();
        c.end();
    }

    private static void newObject() {
        BazaarBook x = new BazaarBook();
        for (int what = 0; what <= 5; what++) {
            c.due(x.count(what), 0);
        }
        for (int p = 0; p < 10; p++) {
            c.due(x.purse(p), 0);
            c.due(x.disown(p), 0);
        }
        for (int a = 0; a < 6; a++) {
            c.due(x.takes(a, 2), 1);
        }
        c.due(x.wipe(), 0);
        c.due(x.tear(), 0);
        for (int by = -8; by <= -2; by++) {
            c.due(x.status(by), 0);
        }
    }

    private static void constants() {
        c.due(BazaarBook.NONE, -1);
        c.due(BazaarBook.MISSING, -2);
        c.due(BazaarBook.BEYOND, -3);
        c.due(BazaarBook.BELOW, -4);
        c.due(BazaarBook.KIND, -5);
        c.due(BazaarBook.COPY, -6);
        c.due(BazaarBook.NO, -7);
        c.due(BazaarBook.FULL, -8);
    }

    private static void shopNumbers() {
        BazaarBook x = new BazaarBook();
        c.due(x.shop(347, 20, 4), 0);
        c.due(x.shop(2, 20, 4), 1);
        c.due(x.count(1), 2);
        for (int kind = 0; kind < 2; kind++) {
            for (int p = 0; p < 10; p++) {
                c.due(x.has(0, kind, p), p == 7 ? 5040 : 0);
                c.due(x.has(1, kind, p), p == 2 ? 5040 : 0);
            }
        }
        for (int s = 2; s < 14; s++) {
            c.due(x.shop(0, 1, 1), s);
        }
        c.due(x.shop(0, 1, 1), -8);
        c.due(x.count(1), 14);
    }

    private static void shopRefusals() {
        BazaarBook x = new BazaarBook();
        c.due(x.shop(-1, 1, 1), -3);
        c.due(x.shop(Integer.MIN_VALUE, 1, 1), -3);
        c.due(x.shop(Integer.MAX_VALUE, 1, 1), -3);
        c.due(x.shop(500, 1, 1), -3);
        c.due(x.shop(460, 1, 1), -3);
        c.due(x.shop(99, 1, 1), -3);
        c.due(x.shop(-1, 0, 0), -3);
        c.due(x.shop(0, 0, 1), -7);
        c.due(x.shop(0, -5, 1), -7);
        c.due(x.shop(0, 10000, 1), -7);
        c.due(x.shop(0, 1, 0), -7);
        c.due(x.shop(0, 1, 10), -7);
        c.due(x.count(1), 0);
        for (int s = 0; s < 14; s++) {
            x.shop(0, 1, 1);
        }
        c.due(x.shop(500, 0, 1), -3);
        c.due(x.shop(0, 0, 1), -7);
        c.due(x.shop(0, 1, 1), -8);
    }

    private static void shopEdges() {
        BazaarBook x = new BazaarBook();
        c.due(x.shop(459, 9999, 9), 0);
        c.due(x.look(0, 0), 4);
        c.due(x.look(0, 1), 5);
        c.due(x.look(0, 2), 9999);
        c.due(x.look(0, 3), 9);
        c.due(x.has(0, 0, 9), 5040);
        c.due(x.shop(0, 1, 1), 1);
        c.due(x.look(1, 2), 1);
        c.due(x.look(1, 3), 1);
    }

    private static void lookAtShop() {
        BazaarBook x = new BazaarBook();
        x.shop(0, 1, 1);
        x.shop(231, 700, 6);
        c.due(x.look(1, 0), 2);
        c.due(x.look(1, 1), 3);
        c.due(x.look(1, 2), 700);
        c.due(x.look(1, 3), 6);
        c.due(x.look(1, 4), -1);
        c.due(x.look(1, 5), -1);
        c.due(x.look(1, 6), -1);
        c.due(x.look(1, 7), 0);
        c.due(x.look(1, 8), 0);
        x.let(1, 18, 12, 55);
        c.due(x.look(1, 4), 8);
        c.due(x.look(1, 5), 12);
        c.due(x.look(1, 6), 55);
        x.pawn(1, 3, 100);
        x.pawn(1, 4, 250);
        c.due(x.look(1, 7), 2);
        c.due(x.look(1, 8), 350);
        c.due(x.look(0, 4), -1);
        c.due(x.look(0, 7), 0);
    }

    private static void lookRefusals() {
        BazaarBook x = new BazaarBook();
        c.due(x.look(0, 0), -3);
        x.shop(0, 1, 1);
        c.due(x.look(1, 0), -3);
        c.due(x.look(-1, 0), -3);
        c.due(x.look(1, 9), -3);
        c.due(x.look(0, 9), -7);
        c.due(x.look(0, -1), -7);
        c.due(x.status(-3), 4);
        c.due(x.status(-7), 2);
    }

    private static void hasParts() {
        BazaarBook x = new BazaarBook();
        c.due(x.has(0, 0, 0), -3);
        x.shop(5, 1, 1);
        x.sale(0, 56, 40);
        c.due(x.has(0, 0, 5), 5000);
        c.due(x.has(0, 0, 6), 40);
        c.due(x.has(0, 1, 5), 5040);
        c.due(x.has(0, 1, 6), 0);
        c.due(x.has(1, 0, 5), -3);
        c.due(x.has(-1, 0, 5), -3);
        c.due(x.has(0, 0, 10), -3);
        c.due(x.has(0, 0, -1), -3);
        c.due(x.has(0, 2, 10), -3);
        c.due(x.has(0, 2, 5), -5);
        c.due(x.has(0, 3, 5), -5);
        c.due(x.has(0, -1, 5), -5);
    }
}
