/** Boundary cases of the promises 9 to 15: let, pawn, pawned, pay, sold, first, purse. */
public final class EdgesOfRightsTest {
    private static final int BEYOND = BazaarBook.BEYOND;
    private static final int NO = BazaarBook.NO;
    private static final int FULL = BazaarBook.FULL;
    private static final int NONE = BazaarBook.NONE;

    private static final Edges e = new Edges();

    public static void main(String[] args) {
        letDaysAndRents();
        letToAndBy();
        letRefused();
        letFirstOfSeveral();
        pawnDebts();
        pawnRanks();
        pawnRefused();
        pawnFirstOfSeveral();
        pawnedOnes();
        paidOnes();
        soldPrices();
        soldDebts();
        soldParting();
        soldRefused();
        firstOffered();
        firstRefused();
        purses();
        e.end();
    }

    private static void letDaysAndRents() {
        e.on(Books::rich);
        e.answersEach("9: DAY (this one at least, 100000 at most)", 1, new int[] {5, 6, 99999, 100000},
                (x, through) -> x.let(2, 29, through, 1));
        e.refusesEach("9: NO: DAY", NO, new int[] {4, 0, -1, 100001, Edges.LEAST, Edges.MOST},
                (x, through) -> x.let(2, 29, through, 1));
        e.answersEach("9: RENT (0 .. 999)", 1, new int[] {0, 1, 998, 999}, (x, rent) -> x.let(2, 29, 5, rent));
        e.refusesEach("9: NO: RENT", NO, new int[] {-1, 1000, Edges.LEAST, Edges.MOST},
                (x, rent) -> x.let(2, 29, 5, rent));
        e.on(Books::empty);
        e.answers("9: through DAY 0, which is open at first", 1, x -> {
            x.shop(0, 1, 1);
            return x.let(0, 1, 0, 0);
        });
    }

    private static void letToAndBy() {
        e.on(Books::rich);
        e.answersEach("9: PERSONS: the one who sits, 0 .. 9", 1, new int[] {20, 21, 28, 29},
                (x, persons) -> x.let(2, persons, 5, 1));
        e.answers("9: the PERSON who lets may sit there", 2, x -> {
            x.let(2, 22, 5, 1);
            return x.look(2, 4);
        });
        e.answers("9: PERSON 9 lets", 1, x -> {
            x.sale(102, 29, 1);
            return x.let(2, 90, 5, 1);
        });
        e.answers("9: some PARTS of the SEAT: one is enough", 1, x -> {
            x.sale(102, 23, 1);
            return x.let(2, 34, 5, 1);
        });
        e.answers("9: some PARTS of the SEAT, when all but one went", 1, x -> {
            x.sale(102, 23, 5039);
            return x.let(2, 24, 5, 1);
        });
        e.answers("9: no PARTS of the WALL are needed", 1, x -> {
            x.sale(2, 23, 5040);
            return x.let(2, 24, 5, 1);
        });
        e.answers("9: behind the last DAY of a LET another one is good", 1, x -> {
            x.run(1);
            return x.let(1, 19, 6, 1);
        });
    }

    private static void letRefused() {
        e.on(Books::empty);
        e.refuses("9: BEYOND: there are no SHOPS", BEYOND, x -> x.let(0, 1, 0, 0));
        e.on(Books::rich);
        e.refusesEach("9: BEYOND: SHOP", BEYOND, Edges.NO_SHOP, (x, shop) -> x.let(shop, 1, 5, 1));
        e.refusesEach("9: BEYOND: PERSONS", BEYOND, Edges.NO_PAIR, (x, persons) -> x.let(2, persons, 5, 1));
        e.refuses("9: NO: it has one that lasts", NO, x -> x.let(0, 1, 20, 1));
        e.refuses("9: NO: it has one that lasts through this DAY", NO, x -> x.let(1, 19, 20, 1));
        e.refuses("9: NO: it has one that lasts, to the same PERSON", NO, x -> x.let(1, 17, 20, 1));
        e.refuses("9: NO: no PARTS", NO, x -> x.let(2, 34, 5, 1));
        e.on(x -> {
            Books.rich(x);
            x.sale(2, 23, 5040);
            x.sale(102, 24, 5040);
        });
        e.refuses("9: NO: PARTS of the WALL alone", NO, x -> x.let(2, 31, 5, 1));
        e.refuses("9: NO: PARTS that went", NO, x -> x.let(2, 21, 5, 1));
        e.on(Books::full);
        e.answers("9: the last SHOP", 1, x -> x.let(13, 39, 0, 1));
        e.refuses("9: BEYOND behind the last SHOP", BEYOND, x -> x.let(14, 39, 0, 1));
    }

    private static void letFirstOfSeveral() {
        e.on(Books::rich);
        e.refuses("9: BEYOND (SHOP) ahead of NO (DAY)", BEYOND, x -> x.let(3, 1, 4, 1));
        e.refuses("9: BEYOND (SHOP) ahead of NO (RENT)", BEYOND, x -> x.let(-1, 1, 5, 1000));
        e.refuses("9: BEYOND (PERSONS) ahead of NO (DAY)", BEYOND, x -> x.let(2, 100, 4, 1));
        e.refuses("9: BEYOND (PERSONS) ahead of NO (RENT)", BEYOND, x -> x.let(2, -1, 5, -1));
        e.refuses("9: BEYOND (PERSONS) ahead of NO (it has one that lasts)", BEYOND, x -> x.let(0, 100, 5, 1));
        e.refuses("9: BEYOND (PERSONS below 0) ahead of NO (no PARTS)", BEYOND, x -> x.let(2, -10, 5, 1));
    }

    private static void pawnDebts() {
        e.on(Books::rich);
        e.answersEach("10: DEBT (1 .. 9999)", 1, new int[] {1, 9998, 9999}, (x, debt) -> x.pawn(1, 9, debt));
        e.refusesEach("10: NO: DEBT", NO, new int[] {0, -1, 10000, Edges.LEAST, Edges.MOST},
                (x, debt) -> x.pawn(1, 9, debt));
        e.answers("10: with all others not above WORTH", 3, x -> x.pawn(0, 9, 100));
        e.refuses("10: NO: with all others one above WORTH", NO, x -> x.pawn(0, 9, 101));
        e.refuses("10: NO: all others are as great as WORTH", NO, x -> x.pawn(2, 9, 1));
        e.refuses("10: NO: above WORTH where the sum wraps around", NO, x -> x.pawn(0, 9, Edges.MOST));
        e.answers("10: a DEBT on another SHOP is none on this one", 1, x -> x.pawn(1, 9, 9999));
        e.answers("10: what was PAID is free again", 2, x -> {
            x.pay(0, 0);
            return x.pawn(0, 9, 200);
        });
        e.on(x -> x.shop(0, 1, 1));
        e.answers("10: the least DEBT on the least WORTH", 1, x -> x.pawn(0, 9, 1));
        e.refuses("10: NO: one above the least WORTH", NO, x -> x.pawn(0, 9, 2));
    }

    private static void pawnRanks() {
        e.on(x -> {
            x.shop(0, 9999, 1);
            x.shop(0, 9999, 1);
            for (int i = 0; i < 7; i++) {
                x.pawn(0, 9, 1);
            }
        });
        e.answers("10: 8 at most on a SHOP: the eighth", 8, x -> x.pawn(0, 9, 1));
        e.answers("10: others are on another SHOP", 1, x -> x.pawn(1, 9, 1));
        e.on(Books::full);
        e.refuses("10: FULL", FULL, x -> x.pawn(13, 9, 1));
        e.answers("10: another SHOP has room", 1, x -> x.pawn(12, 9, 1));
        e.answers("10: room for one when one is PAID", 8, x -> {
            x.pay(13, 0);
            return x.pawn(13, 9, 1);
        });
        e.answers("10: it comes behind all others", 9, x -> {
            x.pay(13, 0);
            x.pawn(13, 9, 1);
            return x.pawned(13, 7, 0);
        });
    }

    private static void pawnRefused() {
        e.on(Books::empty);
        e.refuses("10: BEYOND: there are no SHOPS", BEYOND, x -> x.pawn(0, 0, 1));
        e.on(Books::rich);
        e.refusesEach("10: BEYOND: SHOP", BEYOND, Edges.NO_SHOP, (x, shop) -> x.pawn(shop, 0, 1));
        e.refusesEach("10: BEYOND: PERSON", BEYOND, Edges.NO_PERSON, (x, person) -> x.pawn(0, person, 1));
        e.answersEach("10: PERSONS 0 .. 9", 3, new int[] {0, 9}, (x, person) -> x.pawn(0, person, 1));
        e.on(Books::full);
        e.refuses("10: BEYOND behind the last SHOP", BEYOND, x -> x.pawn(14, 0, 1));
    }

    private static void pawnFirstOfSeveral() {
        e.on(Books::rich);
        e.refuses("10: BEYOND (SHOP) ahead of NO (DEBT)", BEYOND, x -> x.pawn(3, 0, 0));
        e.refuses("10: BEYOND (PERSON) ahead of NO (DEBT)", BEYOND, x -> x.pawn(0, 10, 10000));
        e.refuses("10: BEYOND (PERSON) ahead of NO (above WORTH)", BEYOND, x -> x.pawn(0, -1, 101));
        e.on(Books::full);
        e.refuses("10: BEYOND (PERSON) ahead of FULL", BEYOND, x -> x.pawn(13, 10, 1));
        e.refuses("10: NO (DEBT, too small) ahead of FULL", NO, x -> x.pawn(13, 0, 0));
        e.refuses("10: NO (DEBT, too large) ahead of FULL", NO, x -> x.pawn(13, 0, 10000));
        e.refuses("10: NO (one above WORTH) ahead of FULL", NO, x -> x.pawn(13, 0, 1400 - 108 + 1));
        e.refuses("10: FULL where the DEBT is just not above WORTH", FULL, x -> x.pawn(13, 0, 1400 - 108));
    }

    private static void pawnedOnes() {
        e.on(Books::rich);
        e.answers("11: to whom (what = 0), PAWN 0", 8, x -> x.pawned(0, 0, 0));
        e.answers("11: DEBT (1), PAWN 0", 100, x -> x.pawned(0, 0, 1));
        e.answers("11: to whom, the last one", 9, x -> x.pawned(0, 1, 0));
        e.answers("11: DEBT, the last one", 300, x -> x.pawned(0, 1, 1));
        e.refusesEach("11: BEYOND (SHOP)", BEYOND, Edges.NO_SHOP, (x, shop) -> x.pawned(shop, 0, 0));
        e.refusesEach("11: BEYOND (i)", BEYOND, new int[] {-1, 2, 8, Edges.LEAST, Edges.MOST},
                (x, i) -> x.pawned(0, i, 1));
        e.refuses("11: BEYOND (i): there are none on this SHOP", BEYOND, x -> x.pawned(1, 0, 0));
        e.refusesEach("11: NO", NO, new int[] {-1, 2, Edges.LEAST, Edges.MOST}, (x, what) -> x.pawned(0, 0, what));
        e.refuses("11: BEYOND (SHOP) ahead of NO", BEYOND, x -> x.pawned(3, 0, 2));
        e.refuses("11: BEYOND (i, too large) ahead of NO", BEYOND, x -> x.pawned(0, 2, 2));
        e.refuses("11: BEYOND (i, too small) ahead of NO", BEYOND, x -> x.pawned(0, -1, -1));
        e.on(Books::empty);
        e.refuses("11: BEYOND: there are no SHOPS", BEYOND, x -> x.pawned(0, 0, 0));
        e.on(Books::full);
        e.answers("11: the eighth PAWN, to whom", 7, x -> x.pawned(13, 7, 0));
        e.answers("11: the eighth PAWN, DEBT", 17, x -> x.pawned(13, 7, 1));
        e.refuses("11: BEYOND (i) behind the eighth", BEYOND, x -> x.pawned(13, 8, 0));
        e.refuses("11: BEYOND behind the last SHOP", BEYOND, x -> x.pawned(14, 0, 0));
    }

    private static void paidOnes() {
        e.on(Books::full);
        e.answers("12: its DEBT, the first one", 10, x -> x.pay(13, 0));
        e.answers("12: its DEBT, the last one", 17, x -> x.pay(13, 7));
        e.answers("12: it goes: those behind it move up", 11, x -> {
            x.pay(13, 0);
            return x.pawned(13, 0, 1);
        });
        e.answers("12: it goes: the last one moves up, too", 7, x -> {
            x.pay(13, 0);
            return x.pawned(13, 6, 0);
        });
        e.answers("12: it goes: those ahead of it stay", 16, x -> {
            x.pay(13, 7);
            return x.pawned(13, 6, 1);
        });
        e.answers("12: it goes: one fewer", 7, x -> {
            x.pay(13, 7);
            return x.look(13, 7);
        });
        e.refuses("12: BEYOND (i) behind the eighth", BEYOND, x -> x.pay(13, 8));
        e.refuses("12: BEYOND (i): there are none", BEYOND, x -> x.pay(12, 0));
        e.refuses("12: BEYOND behind the last SHOP", BEYOND, x -> x.pay(14, 0));
        e.on(Books::rich);
        e.answers("12: the only one", 40, x -> x.pay(2, 0));
        e.answers("12: none are left", 0, x -> {
            x.pay(2, 0);
            return x.look(2, 7);
        });
        e.answers("12: those on another SHOP stay", 2, x -> {
            x.pay(2, 0);
            return x.look(0, 7);
        });
        e.refusesEach("12: BEYOND (SHOP)", BEYOND, Edges.NO_SHOP, (x, shop) -> x.pay(shop, 0));
        e.refusesEach("12: BEYOND (i)", BEYOND, new int[] {-1, 2, 8, Edges.LEAST, Edges.MOST}, (x, i) -> x.pay(0, i));
        e.on(x -> {
            Books.rich(x);
            x.pay(2, 0);
        });
        e.refuses("12: BEYOND (i): it has gone", BEYOND, x -> x.pay(2, 0));
    }

    private static void soldPrices() {
        e.on(Books::rich);
        e.answersEach("13: price (0 .. 99999), all DEBTS above it", 0, new int[] {0, 1},
                (x, price) -> x.sold(0, 9, price));
        e.answers("13: the greatest price: what was over", 99999 - 400, x -> x.sold(0, 9, 99999));
        e.answers("13: without DEBTS all is over", 99999, x -> x.sold(1, 9, 99999));
        e.answers("13: without DEBTS price 0", 0, x -> x.sold(1, 9, 0));
        e.refusesEach("13: NO: price", NO, new int[] {-1, 100000, Edges.LEAST, Edges.MOST},
                (x, price) -> x.sold(0, 9, price));
        e.answers("13: all PARTS of the SEAT go, for price 0, too", 5040, x -> {
            x.sold(0, 9, 0);
            return x.has(0, 1, 9);
        });
        e.answers("13: none are left with the one who had most", 0, x -> {
            x.sold(0, 9, 0);
            return x.has(0, 1, 0);
        });
        e.answers("13: none are left with the one who had fewest", 0, x -> {
            x.sold(0, 9, 0);
            return x.has(0, 1, 4);
        });
        e.answers("13: to one who had PARTS", 5040, x -> {
            x.sold(0, 4, 0);
            return x.has(0, 1, 4);
        });
        e.answers("13: the WALL stays", 4040, x -> {
            x.sold(0, 9, 0);
            return x.has(0, 0, 0);
        });
        e.answers("13: the price comes from without", 0, x -> {
            x.sold(1, 5, 1000);
            return x.purse(5);
        });
    }

    private static void soldDebts() {
        e.on(Books::rich);
        e.answers("13: DEBTS in their order: the first one in full", 100, x -> {
            x.sold(0, 5, 399);
            return x.purse(8);
        });
        e.answers("13: DEBTS as far as the price goes", 299, x -> {
            x.sold(0, 5, 399);
            return x.purse(9);
        });
        e.answers("13: one that isn't paid in full stays", 1, x -> {
            x.sold(0, 5, 399);
            return x.look(0, 7);
        });
        e.answers("13: with the rest", 1, x -> {
            x.sold(0, 5, 399);
            return x.pawned(0, 0, 1);
        });
        e.answers("13: owed to the same PERSON", 9, x -> {
            x.sold(0, 5, 399);
            return x.pawned(0, 0, 0);
        });
        e.answers("13: a price as great as all DEBTS: nothing is over", 0, x -> x.sold(0, 5, 400));
        e.answers("13: a price as great as all DEBTS: none stay", 0, x -> {
            x.sold(0, 5, 400);
            return x.look(0, 7);
        });
        e.answers("13: a price one greater than all DEBTS", 1, x -> x.sold(0, 5, 401));
        e.answers("13: a price as great as the first DEBT: it goes", 1, x -> {
            x.sold(0, 5, 100);
            return x.look(0, 7);
        });
        e.answers("13: a price as great as the first DEBT: the next is untouched", 300, x -> {
            x.sold(0, 5, 100);
            return x.pawned(0, 0, 1);
        });
        e.answers("13: a price one less than the first DEBT: both stay", 2, x -> {
            x.sold(0, 5, 99);
            return x.look(0, 7);
        });
        e.answers("13: a price one less than the first DEBT: its rest", 1, x -> {
            x.sold(0, 5, 99);
            return x.pawned(0, 0, 1);
        });
        e.answers("13: price 0: all DEBTS stay", 400, x -> {
            x.sold(0, 5, 0);
            return x.look(0, 8);
        });
        e.answers("13: DEBTS on another SHOP stay", 40, x -> {
            x.sold(0, 5, 99999);
            return x.look(2, 8);
        });
        e.on(Books::full);
        e.answers("13: eight DEBTS are paid", 0, x -> x.sold(13, 0, 108));
        e.answers("13: the eighth one by all but one", 1, x -> {
            x.sold(13, 0, 107);
            return x.pawned(13, 0, 1);
        });
    }

    /** Persons 3, 5, 8 have 1680, 3359, 1 parts of the seat. */
    private static void threeSeats(BazaarBook x) {
        x.shop(5, 1000, 1);
        x.sale(100, 53, 1680);
        x.sale(100, 58, 1);
    }

    private static void soldParting() {
        e.on(EdgesOfRightsTest::threeSeats);
        // of 100: 33, 66, 0 by 1680, 3359, 1 of 5040 parts, cut; 1 is left
        e.answers("13: price times PARTS / 5040, cut, and what is left to the first", 34, x -> {
            x.sold(0, 0, 100);
            return x.purse(3);
        });
        e.answers("13: cut", 66, x -> {
            x.sold(0, 0, 100);
            return x.purse(5);
        });
        e.answers("13: cut to nothing", 0, x -> {
            x.sold(0, 0, 100);
            return x.purse(8);
        });
        e.answers("13: one without PARTS gets nothing of what is left", 0, x -> {
            x.sold(0, 0, 100);
            return x.purse(0);
        });
        e.answers("13: a price of 1 is left to the first of these", 1, x -> {
            x.sold(0, 0, 1);
            return x.purse(3);
        });
        e.answers("13: one PART of 5040", 1, x -> {
            x.sold(0, 0, 5040);
            return x.purse(8);
        });
        e.answers("13: one PART of 5039 is cut", 0, x -> {
            x.sold(0, 0, 5039);
            return x.purse(8);
        });
        e.answers("13: the greatest price, one PART", 19, x -> {
            x.sold(0, 0, 99999);
            return x.purse(8);
        });
        e.answers("13: the greatest price, most PARTS", 99999L * 3359 / 5040, x -> {
            x.sold(0, 0, 99999);
            return x.purse(5);
        });
    }

    private static void soldRefused() {
        e.on(Books::empty);
        e.refuses("13: BEYOND: there are no SHOPS", BEYOND, x -> x.sold(0, 0, 0));
        e.on(Books::rich);
        e.refusesEach("13: BEYOND: SHOP", BEYOND, Edges.NO_SHOP, (x, shop) -> x.sold(shop, 0, 10));
        e.refusesEach("13: BEYOND: PERSON", BEYOND, Edges.NO_PERSON, (x, person) -> x.sold(0, person, 10));
        e.refuses("13: BEYOND (SHOP) ahead of NO", BEYOND, x -> x.sold(3, 0, -1));
        e.refuses("13: BEYOND (PERSON) ahead of NO", BEYOND, x -> x.sold(0, 10, 100000));
        e.on(Books::full);
        e.refuses("13: BEYOND behind the last SHOP", BEYOND, x -> x.sold(14, 0, 10));
    }

    private static void firstOffered() {
        e.on(Books::rich);
        e.answers("14: of others with PARTS of it the one with the most", 4, x -> x.first(0, 0));
        e.answers("14: one with fewer asks, too", 0, x -> x.first(0, 4));
        e.answers("14: nobody", NONE, x -> x.first(2, 2));
        e.answers("14: one PART of the SEAT goes ahead of all of the WALL", 7, x -> {
            x.sale(2, 28, 5040);
            x.sale(102, 27, 1);
            return x.first(2, 2);
        });
        e.answers("14: without any: of others with PARTS of the WALL", 8, x -> {
            x.sale(2, 28, 1);
            return x.first(2, 2);
        });
        e.answers("14: of these the least, of the SEAT", 3, x -> {
            x.sale(102, 29, 5);
            x.sale(102, 23, 5);
            x.sale(102, 20, 4);
            return x.first(2, 2);
        });
        e.answers("14: of these the least, of the WALL", 3, x -> {
            x.sale(2, 29, 5);
            x.sale(2, 23, 5);
            x.sale(2, 20, 4);
            return x.first(2, 2);
        });
        e.answers("14: the most by one PART", 9, x -> {
            x.sale(102, 29, 6);
            x.sale(102, 23, 5);
            return x.first(2, 2);
        });
        e.answers("14: the PERSON's own PARTS of the WALL don't count", NONE, x -> {
            x.sale(102, 20, 5040);
            x.sale(2, 20, 5040);
            return x.first(2, 0);
        });
        e.answers("14: PERSON 0 is not nobody", 0, x -> {
            x.sale(102, 20, 1);
            return x.first(2, 2);
        });
    }

    private static void firstRefused() {
        e.on(Books::empty);
        e.refuses("14: BEYOND: there are no SHOPS", BEYOND, x -> x.first(0, 0));
        e.on(Books::rich);
        e.refusesEach("14: BEYOND: SHOP", BEYOND, Edges.NO_SHOP, (x, shop) -> x.first(shop, 0));
        e.refusesEach("14: BEYOND: PERSON", BEYOND, Edges.NO_PERSON, (x, person) -> x.first(0, person));
        e.refuses("14: NO: the PERSON has no PARTS at all", NO, x -> x.first(0, 9));
        e.refuses("14: NO: the PERSON has PARTS of the WALL alone", NO, x -> x.first(0, 3));
        e.refuses("14: NO: the PERSON has a LET alone", NO, x -> x.first(0, 6));
        e.refuses("14: BEYOND (SHOP) ahead of NO", BEYOND, x -> x.first(3, 9));
        e.on(Books::full);
        e.refuses("14: BEYOND behind the last SHOP", BEYOND, x -> x.first(14, 0));
    }

    private static void purses() {
        e.on(Books::rich);
        e.answers("15: PURSE of a PERSON", 77, x -> x.purse(1));
        e.answers("15: PURSE that may be below 0", -999, x -> {
            x.run(1);
            return x.purse(7);
        });
        // a purse of -3 is an answer, not a refusal
        e.answers("15: PURSE of -3 is no refusal", -3, x -> {
            x.let(2, 25, 5, 3);
            x.run(1);
            return x.purse(5);
        });
        e.on(x -> x.shop(5, 1, 1));
        e.answers("15: PURSE after 500 of the greatest prices", 500L * 99999, x -> {
            for (int i = 0; i < 500; i++) {
                x.sold(0, 5, 99999);
            }
            return x.purse(5);
        });
        e.on(Books::rich);
        for (int person : Edges.NO_PERSON) {
            e.refusesAnswering("15: BEYOND: 0, and status() tells of it [" + person + "]", BEYOND, 0,
                    x -> x.purse(person));
        }
    }
}
