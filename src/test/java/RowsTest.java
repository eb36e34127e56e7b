/** Promises 30 to 34: lay, tear, row, copy, status. */
public final class RowsTest {
    private static final Check c = new Check();

    public static void main(String[] args) {
        layAndRow();
        layRefusals();
        tearRow();
        copyAsTheyWere();
        copyRefusals();
        statusOfEachRefusal();
        c.end();
    }

    private static BazaarBook withParts() {
        BazaarBook x = new BazaarBook();
        x.shop(0, 1, 1);
        for (int p = 1; p < 10; p++) {
            x.sale(100, p, p);
        }
        return x;
    }

    private static void rowIs(BazaarBook x, int... due) {
        for (int i = 0; i < due.length; i++) {
            c.due("row " + i, x.row(i), due[i]);
        }
    }

    private static void layAndRow() {
        BazaarBook x = withParts();
        c.due(x.row(0), -2);
        c.due(x.row(10), -2);
        c.due(x.lay(0, 1), 10);
        rowIs(x, 4995, 1, 2, 3, 4, 5, 6, 7, 8, 9);
        c.due(x.row(-1), -3);
        c.due(x.row(10), -3);
        x.sale(100, 1, 5);
        rowIs(x, 4995, 1, 2, 3, 4, 5, 6, 7, 8, 9);
        c.due(x.lay(0, 0), 10);
        rowIs(x, 5040, 0, 0, 0, 0, 0, 0, 0, 0, 0);
        c.due(x.lay(0, 1), 10);
        rowIs(x, 4990, 6, 2, 3, 4, 5, 6, 7, 8, 9);
    }

    private static void layRefusals() {
        BazaarBook x = new BazaarBook();
        c.due(x.lay(0, 0), -3);
        x.shop(3, 1, 1);
        c.due(x.lay(1, 0), -3);
        c.due(x.lay(-1, 0), -3);
        c.due(x.lay(1, 2), -3);
        c.due(x.lay(0, 2), -5);
        c.due(x.lay(0, -1), -5);
        c.due(x.row(0), -2);
        c.due(x.lay(0, 0), 10);
        c.due(x.lay(0, 2), -5);
        c.due(x.row(3), 5040);
    }

    private static void tearRow() {
        BazaarBook x = withParts();
        c.due(x.tear(), 0);
        x.lay(0, 1);
        c.due(x.tear(), 1);
        c.due(x.tear(), 0);
        c.due(x.row(0), -2);
        c.due(x.copy(0, 0, 0), -2);
        x.lay(0, 1);
        rowIs(x, 4995, 1, 2, 3, 4, 5, 6, 7, 8, 9);
    }

    private static void copyAsTheyWere() {
        BazaarBook x = withParts();
        x.lay(0, 1);
        c.due(x.copy(1, 2, 4), 4);
        rowIs(x, 4995, 1, 1, 2, 3, 4, 6, 7, 8, 9);
        c.due(x.copy(3, 2, 7), 7);
        rowIs(x, 4995, 1, 2, 3, 4, 6, 7, 8, 9, 9);
        c.due(x.copy(0, 0, 10), 10);
        c.due(x.copy(10, 10, 0), 0);
        c.due(x.copy(10, 0, 0), 0);
        rowIs(x, 4995, 1, 2, 3, 4, 6, 7, 8, 9, 9);
        c.due(x.copy(0, 9, 1), 1);
        rowIs(x, 4995, 1, 2, 3, 4, 6, 7, 8, 9, 4995);
        c.due(x.has(0, 1, 9), 9);
    }

    private static void copyRefusals() {
        BazaarBook x = withParts();
        c.due(x.copy(0, 0, -1), -2);
        x.lay(0, 1);
        c.due(x.copy(0, 0, -1), -4);
        c.due(x.copy(-1, 0, -1), -4);
        c.due(x.copy(0, 0, Integer.MIN_VALUE), -4);
        c.due(x.copy(-1, 0, 1), -6);
        c.due(x.copy(0, -1, 1), -6);
        c.due(x.copy(-1, 0, 0), -6);
        c.due(x.copy(0, 11, 0), -6);
        c.due(x.copy(1, 0, 10), -6);
        c.due(x.copy(0, 1, 10), -6);
        c.due(x.copy(0, 0, 11), -6);
        c.due(x.copy(0, 0, Integer.MAX_VALUE), -6);
        c.due(x.copy(Integer.MAX_VALUE, 0, 1), -6);
        c.due(x.copy(0, Integer.MAX_VALUE, Integer.MAX_VALUE), -6);
        rowIs(x, 4995, 1, 2, 3, 4, 5, 6, 7, 8, 9);
        c.due(x.status(-2), 1);
        c.due(x.status(-4), 3);
        c.due(x.status(-6), 10);
    }

    private static void statusOfEachRefusal() {
        BazaarBook x = new BazaarBook();
        x.row(0);
        x.look(0, 0);
        x.purse(10);
        x.run(-1);
        x.run(-1);
        x.run(-1);
        x.shop(0, 1, 1);
        x.lay(0, 5);
        x.lay(0, 0);
        x.copy(9, 9, 9);
        x.count(9);
        x.first(0, 0);
        Check.feed(x, "b");
        x.rule(0, 1);
        for (int s = 1; s < 16; s++) {
            x.shop(0, 1, 1);
        }
        c.due(x.status(-2), 1);
        c.due(x.status(-3), 2);
        c.due(x.status(-4), 3);
        c.due(x.status(-5), 1);
        c.due(x.status(-6), 1);
        c.due(x.status(-7), 1);
        c.due(x.status(-8), 2);
        c.due(x.status(-1), -7);
        c.due(x.status(-9), -7);
        c.due(x.status(0), -7);
        c.due(x.status(3), -7);
        c.due(x.status(Integer.MIN_VALUE), -7);
        c.due(x.status(-7), 6);
    }
}
