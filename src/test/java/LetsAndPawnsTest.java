/** Promises 9 to 15 and 21: let, pawn, pawned, pay, sold, first, purse, run. */
public final class LetsAndPawnsTest {
    private static final Check c = new Check();

    public static void main(String[] args) {
        letThroughDays();
        letRefusals();
        pawnsInOrder();
        pawnRefusals();
        pawnedRefusals();
        payTakesOneOut();
        soldPaysDebtsFirst();
        soldPartsWhatIsOver();
        soldRefusals();
        firstOfSeatThenWall();
        firstRefusals();
        purseRefusals();
        runPaysRents();
        runEndsLets();
        runRefusals();
        c.end();
    }

    private static void letThroughDays() {
        BazaarBook x = new BazaarBook();
        x.shop(1, 500, 1);
        x.shop(1, 500, 1);
        c.due(x.let(0, 12, 0, 0), 1);
        c.due(x.let(1, 11, 100000, 999), 1);
        c.due(x.count(4), 2);
        c.due(x.look(1, 4), 1);
        c.due(x.look(1, 5), 100000);
        x.run(1);
        c.due(x.count(4), 1);
        c.due(x.let(0, 13, 0, 5), -7);
        c.due(x.let(0, 13, 1, 5), 1);
        c.due(x.look(0, 4), 3);
        c.due(x.look(0, 6), 5);
    }

    private static void letRefusals() {
        BazaarBook x = new BazaarBook();
        c.due(x.let(0, 12, 0, 0), -3);
        x.shop(1, 500, 1);
        c.due(x.let(1, 12, 0, 0), -3);
        c.due(x.let(-1, 12, 0, 0), -3);
        c.due(x.let(0, -1, 0, 0), -3);
        c.due(x.let(0, 100, 0, 0), -3);
        c.due(x.let(0, 100, -1, 0), -3);
        c.due(x.let(0, 12, -1, 0), -7);
        c.due(x.let(0, 12, 100001, 0), -7);
        c.due(x.let(0, 12, 0, -1), -7);
        c.due(x.let(0, 12, 0, 1000), -7);
        c.due(x.let(0, 21, 0, 1), -7);
        x.sale(100, 12, 5039);
        x.sale(0, 13, 5040);
        c.due(x.let(0, 30, 0, 1), -7);
        c.due(x.look(0, 4), -1);
        c.due(x.let(0, 12, 3, 1), 1);
        c.due(x.let(0, 12, 3, 1), -7);
        c.due(x.status(-3), 6);
        c.due(x.status(-7), 7);
    }

    private static void pawnsInOrder() {
        BazaarBook x = new BazaarBook();
        x.shop(1, 36, 1);
        for (int i = 0; i < 8; i++) {
            c.due(x.pawn(0, 9 - i, i + 1), i + 1);
        }
        for (int i = 0; i < 8; i++) {
            c.due(x.pawned(0, i, 0), 9 - i);
            c.due(x.pawned(0, i, 1), i + 1);
        }
        c.due(x.look(0, 7), 8);
        c.due(x.look(0, 8), 36);
        c.due(x.count(5), 8);
    }

    private static void pawnRefusals() {
        BazaarBook x = new BazaarBook();
        c.due(x.pawn(0, 1, 1), -3);
        x.shop(1, 9999, 1);
        x.shop(1, 100, 1);
        c.due(x.pawn(2, 1, 1), -3);
        c.due(x.pawn(-1, 1, 1), -3);
        c.due(x.pawn(0, 10, 0), -3);
        c.due(x.pawn(0, -1, 1), -3);
        c.due(x.pawn(0, 1, 0), -7);
        c.due(x.pawn(0, 1, -1), -7);
        c.due(x.pawn(0, 1, 10000), -7);
        c.due(x.pawn(0, 1, Integer.MAX_VALUE), -7);
        c.due(x.pawn(1, 1, 101), -7);
        c.due(x.pawn(1, 1, 100), 1);
        c.due(x.pawn(1, 1, 1), -7);
        for (int i = 0; i < 8; i++) {
            c.due(x.pawn(0, 1, 10), i + 1);
        }
        c.due(x.pawn(0, 1, 9920), -7);
        c.due(x.pawn(0, 1, Integer.MAX_VALUE), -7);
        c.due(x.pawn(0, 1, 9919), -8);
        c.due(x.look(0, 7), 8);
        c.due(x.look(0, 8), 80);
        x.shop(1, 9999, 1);
        c.due(x.pawn(2, 1, 9999), 1);
    }

    private static void pawnedRefusals() {
        BazaarBook x = new BazaarBook();
        c.due(x.pawned(0, 0, 0), -3);
        x.shop(1, 100, 1);
        c.due(x.pawned(0, 0, 0), -3);
        x.pawn(0, 4, 30);
        c.due(x.pawned(0, 1, 0), -3);
        c.due(x.pawned(0, -1, 0), -3);
        c.due(x.pawned(1, 0, 0), -3);
        c.due(x.pawned(0, 1, 2), -3);
        c.due(x.pawned(0, 0, 2), -7);
        c.due(x.pawned(0, 0, -1), -7);
        c.due(x.pawned(0, 0, 0), 4);
        c.due(x.pawned(0, 0, 1), 30);
    }

    private static void payTakesOneOut() {
        BazaarBook x = new BazaarBook();
        x.shop(1, 100, 1);
        x.pawn(0, 4, 30);
        x.pawn(0, 5, 20);
        x.pawn(0, 6, 10);
        c.due(x.pay(0, 3), -3);
        c.due(x.pay(0, -1), -3);
        c.due(x.pay(1, 0), -3);
        c.due(x.pay(-1, 0), -3);
        c.due(x.pay(0, 1), 20);
        c.due(x.pawned(0, 0, 0), 4);
        c.due(x.pawned(0, 0, 1), 30);
        c.due(x.pawned(0, 1, 0), 6);
        c.due(x.pawned(0, 1, 1), 10);
        c.due(x.look(0, 7), 2);
        c.due(x.look(0, 8), 40);
        c.due(x.pay(0, 0), 30);
        c.due(x.pay(0, 0), 10);
        c.due(x.pay(0, 0), -3);
        // the document says of a pawn that is paid only that it goes
        for (int p = 0; p < 10; p++) {
            c.due(x.purse(p), 0);
        }
    }

    private static void soldPaysDebtsFirst() {
        BazaarBook x = new BazaarBook();
        x.shop(1, 1000, 1);
        x.pawn(0, 4, 100);
        x.pawn(0, 5, 200);
        x.pawn(0, 4, 300);
        c.due(x.sold(0, 2, 0), 0);
        c.due(x.look(0, 8), 600);
        c.due(x.has(0, 1, 2), 5040);
        c.due(x.has(0, 1, 1), 0);
        c.due(x.has(0, 0, 1), 5040);
        c.due(x.sold(0, 3, 250), 0);
        c.due(x.purse(4), 100);
        c.due(x.purse(5), 150);
        c.due(x.look(0, 7), 2);
        c.due(x.pawned(0, 0, 0), 5);
        c.due(x.pawned(0, 0, 1), 50);
        c.due(x.pawned(0, 1, 0), 4);
        c.due(x.pawned(0, 1, 1), 300);
        c.due(x.sold(0, 3, 350), 0);
        c.due(x.purse(5), 200);
        c.due(x.purse(4), 400);
        c.due(x.purse(3), 0);
        c.due(x.look(0, 7), 0);
        x.pawn(0, 6, 10);
        c.due(x.sold(0, 3, 11), 1);
        c.due(x.purse(3), 1);
        c.due(x.purse(6), 10);
    }

    private static void soldPartsWhatIsOver() {
        BazaarBook x = new BazaarBook();
        x.shop(7, 1000, 1);
        x.sale(100, 72, 1000);
        x.sale(100, 75, 40);
        x.let(0, 73, 9, 1);
        // of 100: 19 for 1000 parts, 0 for 40, 79 for 4000, and 2 over for the first
        c.due(x.sold(0, 2, 100), 100);
        c.due(x.purse(2), 21);
        c.due(x.purse(5), 0);
        c.due(x.purse(7), 79);
        c.due(x.has(0, 1, 2), 5040);
        c.due(x.has(0, 1, 5), 0);
        c.due(x.has(0, 1, 7), 0);
        c.due(x.look(0, 4), 3);
        c.due(x.sold(0, 9, 99999), 99999);
        c.due(x.purse(2), 21 + 99999);
        c.due(x.purse(9), 0);
    }

    private static void soldRefusals() {
        BazaarBook x = new BazaarBook();
        c.due(x.sold(0, 0, 0), -3);
        x.shop(1, 1000, 1);
        c.due(x.sold(1, 0, 0), -3);
        c.due(x.sold(-1, 0, 0), -3);
        c.due(x.sold(0, 10, 0), -3);
        c.due(x.sold(0, -1, -1), -3);
        c.due(x.sold(0, 0, -1), -7);
        c.due(x.sold(0, 0, 100000), -7);
        c.due(x.has(0, 1, 1), 5040);
    }

    private static void firstOfSeatThenWall() {
        BazaarBook x = new BazaarBook();
        x.shop(5, 1000, 1);
        c.due(x.first(0, 5), -1);
        x.sale(0, 58, 10);
        x.sale(0, 56, 10);
        x.sale(0, 54, 9);
        c.due(x.first(0, 5), 6);
        x.sale(0, 58, 1);
        c.due(x.first(0, 5), 8);
        x.sale(100, 53, 1);
        c.due(x.first(0, 5), 3);
        c.due(x.first(0, 3), 5);
        x.sale(100, 59, 2);
        c.due(x.first(0, 5), 9);
        x.sale(100, 52, 2);
        c.due(x.first(0, 5), 2);
        c.due(x.first(0, 2), 5);
        x.sale(100, 50, 2);
        c.due(x.first(0, 5), 0);
        c.due(x.first(0, 0), 5);
    }

    private static void firstRefusals() {
        BazaarBook x = new BazaarBook();
        c.due(x.first(0, 0), -3);
        x.shop(5, 1000, 1);
        c.due(x.first(1, 5), -3);
        c.due(x.first(-1, 5), -3);
        c.due(x.first(0, 10), -3);
        c.due(x.first(0, -1), -3);
        c.due(x.first(0, 4), -7);
        x.sale(0, 54, 5);
        c.due(x.first(0, 4), -7);
    }

    private static void purseRefusals() {
        BazaarBook x = new BazaarBook();
        c.due(x.purse(10), 0);
        c.due(x.purse(-1), 0);
        c.due(x.status(-3), 2);
        c.due(x.purse(9), 0);
        c.due(x.status(-3), 2);
        x.shop(0, 1, 1);
        x.let(0, 1, 0, 3);
        x.run(1);
        c.due(x.purse(1), -3);
        c.due(x.status(-3), 2);
    }

    private static void runPaysRents() {
        BazaarBook x = new BazaarBook();
        x.shop(4, 1000, 1);
        x.shop(4, 1000, 1);
        x.sale(100, 42, 1260);
        x.sale(100, 41, 10);
        // of 10: 0 for 10 parts, 2 for 1260, 7 for 3770, and 1 over for the first
        c.due(x.let(0, 46, 100, 10), 1);
        c.due(x.run(1), 10);
        c.due(x.purse(6), -10);
        c.due(x.purse(1), 1);
        c.due(x.purse(2), 2);
        c.due(x.purse(4), 7);
        c.due(x.count(0), 1);
        c.due(x.run(5), 50);
        c.due(x.purse(6), -60);
        c.due(x.purse(1), 6);
        c.due(x.purse(2), 12);
        c.due(x.purse(4), 42);
        c.due(x.let(1, 44, 100, 999), 1);
        c.due(x.run(1), 1009);
        c.due(x.purse(4), 49);
        c.due(x.count(0), 7);
        c.due(x.run(93), 93 * 1009);
        c.due(x.count(0), 100);
        c.due(x.count(4), 2);
        c.due(x.run(100), 1009);
        c.due(x.count(4), 0);
        c.due(x.count(0), 200);
        c.due(x.run(100), 0);
    }

    private static void runEndsLets() {
        BazaarBook x = new BazaarBook();
        x.shop(4, 1000, 1);
        x.shop(4, 1000, 1);
        x.let(0, 45, 2, 10);
        x.let(1, 45, 3, 1);
        c.due(x.run(2), 22);
        c.due(x.look(0, 4), 5);
        c.due(x.look(0, 5), 2);
        c.due(x.run(1), 11);
        c.due(x.look(0, 4), -1);
        c.due(x.look(0, 5), -1);
        c.due(x.look(0, 6), -1);
        c.due(x.look(1, 4), 5);
        c.due(x.run(100), 1);
        c.due(x.purse(5), -34);
        c.due(x.purse(4), 34);
        c.due(x.look(1, 4), -1);
    }

    private static void runRefusals() {
        BazaarBook x = new BazaarBook();
        c.due(x.run(-1), -4);
        c.due(x.run(Integer.MIN_VALUE), -4);
        c.due(x.run(0), -7);
        c.due(x.run(101), -7);
        c.due(x.count(0), 0);
        c.due(x.run(1), 0);
        c.due(x.run(100), 0);
        c.due(x.count(0), 101);
        c.due(x.status(-4), 2);
        c.due(x.status(-7), 2);
    }
}
