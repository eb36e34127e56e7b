/** Boundary cases of the promises 5 to 8: sale, heir, disown, death. */
public final class EdgesOfPapersTest {
    private static final int MISSING = BazaarBook.MISSING;
    private static final int BEYOND = BazaarBook.BEYOND;
    private static final int KIND = BazaarBook.KIND;
    private static final int NO = BazaarBook.NO;
    private static final int FULL = BazaarBook.FULL;
    private static final int NONE = BazaarBook.NONE;

    private static final Edges e = new Edges();

    public static void main(String[] args) {
        saleOfParts();
        saleBeyond();
        saleNo();
        saleFirstOfSeveral();
        heirsInOrder();
        heirRefused();
        heirFirstOfSeveral();
        disowned();
        deathParts();
        deathOfASitter();
        deathOfALender();
        deathLeaves();
        deathRefused();
        e.end();
    }

    private static void saleOfParts() {
        e.on(Books::rich);
        e.answers("5: as many as told go: one", 1, x -> x.sale(100, 9, 1));
        e.answers("5: as many as told go: all", 5040, x -> x.sale(102, 29, 5040));
        e.answers("5: as many as told go: just as many as the giver has", 40, x -> x.sale(100, 49, 40));
        e.answers("5: or as many as the giver has: one fewer than told", 40, x -> x.sale(100, 49, 41));
        e.answers("5: or as many as the giver has: few of many", 40, x -> x.sale(100, 49, 5040));
        e.answers("5: the giver has none", 0, x -> x.sale(100, 59, 5040));
        e.answers("5: the giver keeps the rest", 4999, x -> {
            x.sale(100, 9, 1);
            return x.has(0, 1, 0);
        });
        e.answers("5: the taker gets no more than the giver had", 40, x -> {
            x.sale(100, 49, 5040);
            return x.has(0, 1, 9);
        });
        e.answers("5: nothing is left with a giver of fewer", 0, x -> {
            x.sale(100, 49, 5040);
            return x.has(0, 1, 4);
        });
        e.answers("5: a SALE of the SEAT leaves the WALL", 4040, x -> {
            x.sale(100, 9, 5000);
            return x.has(0, 0, 0);
        });
        e.answers("5: a SALE of the WALL leaves the SEAT", 5000, x -> {
            x.sale(0, 9, 4040);
            return x.has(0, 1, 0);
        });
        e.answers("5: PERSONS 09", 1, x -> x.sale(0, 9, 1));
        e.answers("5: PERSONS 98", 1, x -> {
            x.sale(0, 9, 1);
            return x.sale(0, 98, 5040);
        });
        e.on(Books::full);
        e.answers("5: the SEAT of the last SHOP", 7, x -> x.sale(113, 30, 7));
        e.answers("5: the WALL of the last SHOP", 7, x -> x.sale(13, 30, 7));
    }

    private static void saleBeyond() {
        e.on(Books::empty);
        e.refuses("5: BEYOND: there are no SHOPS", BEYOND, x -> x.sale(0, 1, 1));
        e.on(Books::rich);
        e.refusesEach("5: BEYOND (told below 0)", BEYOND, new int[] {-1, -2, -99, -100, -101, Edges.LEAST},
                (x, told) -> x.sale(told, 1, 1));
        e.refusesEach("5: BEYOND: SHOP", BEYOND, new int[] {3, 13, 14, 99, 103, 114, 199},
                (x, told) -> x.sale(told, 1, 1));
        e.refusesEach("5: BEYOND (PERSONS told below 0, too)", BEYOND, Edges.NO_PAIR,
                (x, persons) -> x.sale(0, persons, 1));
        e.refusesEach("5: KIND", KIND, new int[] {200, 202, 300, 900, 1000, 10000, Edges.MOST - 47, Edges.MOST - 46},
                (x, told) -> x.sale(told, 1, 1));
        e.on(Books::full);
        e.refuses("5: BEYOND behind the last SHOP", BEYOND, x -> x.sale(14, 1, 1));
        e.refuses("5: BEYOND behind the last SHOP, of SEATS", BEYOND, x -> x.sale(114, 1, 1));
    }

    private static void saleNo() {
        e.on(Books::rich);
        e.refusesEach("5: NO: parts (1 .. 5040)", NO, new int[] {0, -1, 5041, Edges.LEAST, Edges.MOST},
                (x, parts) -> x.sale(0, 1, parts));
        for (int p = 0; p < 10; p++) {
            int itself = 11 * p;
            e.refuses("5: NO: a PERSON and itself, " + p, NO, x -> x.sale(100, itself, 1));
        }
    }

    private static void saleFirstOfSeveral() {
        e.on(Books::rich);
        e.refuses("5: BEYOND (told below 0) ahead of KIND", BEYOND, x -> x.sale(-200, 1, 1));
        e.refuses("5: BEYOND (SHOP) ahead of KIND", BEYOND, x -> x.sale(203, 1, 1));
        e.refuses("5: BEYOND (SHOP, of the greatest number told) ahead of KIND", BEYOND, x -> x.sale(Edges.MOST, 1, 1));
        e.refuses("5: BEYOND (PERSONS) ahead of KIND", BEYOND, x -> x.sale(200, 100, 1));
        e.refuses("5: BEYOND (PERSONS below 0) ahead of KIND", BEYOND, x -> x.sale(200, -1, 1));
        e.refuses("5: BEYOND (SHOP) ahead of NO (parts)", BEYOND, x -> x.sale(3, 1, 0));
        e.refuses("5: BEYOND (SHOP) ahead of NO (itself)", BEYOND, x -> x.sale(3, 11, 1));
        e.refuses("5: BEYOND (PERSONS) ahead of NO (parts)", BEYOND, x -> x.sale(0, 100, 5041));
        e.refuses("5: BEYOND (PERSONS below 0) ahead of NO (itself)", BEYOND, x -> x.sale(0, -11, 1));
        e.refuses("5: KIND ahead of NO (parts, too few)", KIND, x -> x.sale(200, 1, 0));
        e.refuses("5: KIND ahead of NO (parts, too many)", KIND, x -> x.sale(200, 1, 5041));
        e.refuses("5: KIND ahead of NO (itself)", KIND, x -> x.sale(200, 11, 1));
    }

    private static void heirsInOrder() {
        e.on(Books::rich);
        e.answers("6: the first HEIR", 1, x -> x.heir(9, 0, 1));
        e.answers("6: the third HEIR", 3, x -> x.heir(0, 9, 9));
        e.answersEach("6: weight (1 .. 9)", 1, new int[] {1, 9}, (x, weight) -> x.heir(9, 0, weight));
        e.answers("6: 4 at most: the fourth", 4, x -> {
            x.heir(0, 3, 1);
            return x.heir(0, 4, 1);
        });
        e.answers("6: an HEIR of another PERSON may be one's own, too", 2, x -> x.heir(5, 1, 1));
        e.answers("6: one's HEIR may have one as its HEIR", 1, x -> x.heir(1, 0, 1));
        e.answers("6: one that was disowned may be an HEIR again", 1, x -> {
            x.disown(0);
            return x.heir(0, 1, 1);
        });
        e.on(Books::full);
        e.answers("6: that one PERSON has 4 leaves room for another's", 1, x -> x.heir(8, 1, 1));
        e.answers("6: there is room again when they are disowned", 1, x -> {
            x.disown(9);
            return x.heir(9, 1, 1);
        });
    }

    private static void heirRefused() {
        e.on(Books::rich);
        e.refusesEach("6: BEYOND: PERSON", BEYOND, Edges.NO_PERSON, (x, person) -> x.heir(person, 1, 1));
        e.refusesEach("6: BEYOND: HEIR", BEYOND, Edges.NO_PERSON, (x, heir) -> x.heir(1, heir, 1));
        e.refusesEach("6: NO: weight", NO, new int[] {0, -1, 10, Edges.LEAST, Edges.MOST},
                (x, weight) -> x.heir(9, 1, weight));
        e.refusesEach("6: NO: itself", NO, new int[] {0, 1, 5, 9}, (x, person) -> x.heir(person, person, 1));
        e.refuses("6: NO: it is one, the first", NO, x -> x.heir(0, 1, 2));
        e.refuses("6: NO: it is one, the latest, with another weight", NO, x -> x.heir(0, 2, 9));
        e.on(Books::full);
        e.refuses("6: FULL", FULL, x -> x.heir(9, 1, 1));
    }

    private static void heirFirstOfSeveral() {
        e.on(Books::rich);
        e.refuses("6: BEYOND (PERSON) ahead of NO (weight)", BEYOND, x -> x.heir(10, 1, 0));
        e.refuses("6: BEYOND (HEIR) ahead of NO (weight)", BEYOND, x -> x.heir(1, -1, 10));
        e.refuses("6: BEYOND ahead of NO (itself)", BEYOND, x -> x.heir(10, 10, 1));
        e.refuses("6: BEYOND ahead of NO (itself, below 0)", BEYOND, x -> x.heir(-1, -1, 1));
        e.on(Books::full);
        e.refuses("6: BEYOND (HEIR) ahead of FULL", BEYOND, x -> x.heir(9, 10, 1));
        e.refuses("6: NO (weight, too small) ahead of FULL", NO, x -> x.heir(9, 1, 0));
        e.refuses("6: NO (weight, too large) ahead of FULL", NO, x -> x.heir(9, 1, 10));
        e.refuses("6: NO (itself) ahead of FULL", NO, x -> x.heir(9, 9, 1));
        e.refuses("6: NO (the first is one) ahead of FULL", NO, x -> x.heir(9, 0, 1));
        e.refuses("6: NO (the fourth is one) ahead of FULL", NO, x -> x.heir(9, 6, 1));
    }

    private static void disowned() {
        e.on(Books::rich);
        e.answers("7: how many it had", 2, x -> x.disown(0));
        e.answers("7: it had none", 0, x -> x.disown(9));
        e.answers("7: none are left", 0, x -> {
            x.disown(0);
            return x.disown(0);
        });
        e.answers("7: those of another PERSON stay", 1, x -> {
            x.disown(0);
            return x.disown(5);
        });
        e.refusesEach("7: BEYOND", BEYOND, Edges.NO_PERSON, (x, person) -> x.disown(person));
        e.on(Books::full);
        e.answers("7: as many as there may be", 4, x -> x.disown(9));
    }

    /** Person 0 has 7 parts of the wall of shop 0 and heirs 9, 3, 6, 1 by 3, 1, 1, 2. */
    private static void fourHeirs(BazaarBook x) {
        x.shop(2, 1, 1);
        x.shop(0, 1, 1);
        x.sale(0, 20, 7);
        x.heir(0, 9, 3);
        x.heir(0, 3, 1);
        x.heir(0, 6, 1);
        x.heir(0, 1, 2);
    }

    private static long hasAfterDeath(BazaarBook x, int shop, int kind, int person) {
        x.death(0);
        return x.has(shop, kind, person);
    }

    private static void deathParts() {
        e.on(EdgesOfPapersTest::fourHeirs);
        e.answers("8: how many PARTS went, in all", 5040 + 5040 + 7, x -> x.death(0));
        e.answers("8: PARTS times weight / all weights, even", 3, x -> hasAfterDeath(x, 0, 0, 9));
        e.answers("8: PARTS times weight / all weights, even, the last one", 2, x -> hasAfterDeath(x, 0, 0, 1));
        e.answers("8: none are left with the dead one", 0, x -> hasAfterDeath(x, 0, 0, 0));
        e.answers("8: of each SHOP, of WALL", 720, x -> hasAfterDeath(x, 1, 0, 3));
        e.answers("8: of each SHOP, of SEAT", 720, x -> hasAfterDeath(x, 1, 1, 3));
        e.answers("8: others' PARTS stay", 5033, x -> hasAfterDeath(x, 0, 0, 2));
        e.on(x -> {
            fourHeirs(x);
            x.sale(0, 20, 6);
        });
        // of 13: 39 / 7, 13 / 7, 13 / 7, 26 / 7, cut: 5, 1, 1, 3; 3 are over
        e.answers("8: cut, what is over goes to the first one", 8, x -> hasAfterDeath(x, 0, 0, 9));
        e.answers("8: cut, the second one", 1, x -> hasAfterDeath(x, 0, 0, 3));
        e.answers("8: cut, the last one", 3, x -> hasAfterDeath(x, 0, 0, 1));
        e.on(x -> {
            x.shop(2, 1, 1);
            x.sale(100, 20, 1);
            x.heir(0, 3, 1);
            x.heir(0, 4, 9);
        });
        e.answers("8: one PART goes to the first HEIR, even of the least weight", 1, x -> hasAfterDeath(x, 0, 1, 3));
        e.answers("8: one PART doesn't go to the second HEIR", 0, x -> hasAfterDeath(x, 0, 1, 4));
        e.answers("8: one PART went", 1, x -> x.death(0));
        e.on(Books::rich);
        e.answers("8: a single HEIR gets all", 5040, x -> {
            x.heir(2, 9, 1);
            x.death(2);
            return x.has(2, 0, 9);
        });
        e.answers("8: no PARTS went", 0, x -> x.death(5));
        e.on(Books::empty);
        e.answers("8: there are no SHOPS", 0, x -> {
            x.heir(0, 1, 1);
            return x.death(0);
        });
        e.on(Books::full);
        e.answers("8: with 4 HEIRS by 1, 2, 3, 4: the last one", 2016, x -> {
            x.death(9);
            return x.has(9, 1, 6);
        });
    }

    private static void deathOfASitter() {
        e.on(Books::rich);
        for (int what = 4; what <= 6; what++) {
            int asked = what;
            e.answers("8: a LET to the dead one ends, what = " + what, NONE, x -> {
                x.heir(6, 0, 1);
                x.death(6);
                return x.look(0, asked);
            });
        }
        e.answers("8: a LET to the dead one ends on its last DAY, too", NONE, x -> {
            x.heir(7, 0, 1);
            x.death(7);
            return x.look(1, 4);
        });
        e.answers("8: a LET to another one stays", 7, x -> {
            x.heir(6, 0, 1);
            x.death(6);
            return x.look(1, 4);
        });
        e.answers("8: a LET by the dead one stays", 6, x -> {
            x.death(0);
            return x.look(0, 4);
        });
        e.answers("8: its SHOP can be LET again at once", 1, x -> {
            x.heir(6, 0, 1);
            x.death(6);
            return x.let(0, 1, 5, 1);
        });
    }

    private static void deathOfALender() {
        e.on(Books::rich);
        e.answers("8: DEBTS owed to it are owed to its first HEIR", 3, x -> {
            x.heir(8, 3, 1);
            x.heir(8, 2, 9);
            x.death(8);
            return x.pawned(0, 0, 0);
        });
        e.answers("8: DEBTS owed to it on another SHOP, too", 3, x -> {
            x.heir(8, 3, 1);
            x.death(8);
            return x.pawned(2, 0, 0);
        });
        e.answers("8: DEBTS owed to others stay theirs", 9, x -> {
            x.heir(8, 3, 1);
            x.death(8);
            return x.pawned(0, 1, 0);
        });
        e.answers("8: the DEBT is the same", 100, x -> {
            x.heir(8, 3, 1);
            x.death(8);
            return x.pawned(0, 0, 1);
        });
        e.answers("8: as many PAWNS stay", 3, x -> {
            x.heir(8, 3, 1);
            x.death(8);
            return x.count(5);
        });
    }

    private static void deathLeaves() {
        e.on(Books::rich);
        e.answers("8: its PURSE stays", 77, x -> {
            x.heir(1, 9, 1);
            x.death(1);
            return x.purse(1);
        });
        e.answers("8: its PURSE doesn't go to its HEIR", 0, x -> {
            x.heir(1, 9, 1);
            x.death(1);
            return x.purse(9);
        });
        e.answers("8: its HEIRS stay", 2, x -> {
            x.death(0);
            return x.disown(0);
        });
        e.answers("8: it may come into PARTS again", 30, x -> {
            x.death(0);
            return x.sale(100, 40, 30);
        });
        e.answers("8: of these, too, its HEIRS get theirs at its next DEATH", 30, x -> {
            x.death(0);
            x.sale(100, 40, 30);
            return x.death(0);
        });
        e.answers("8: a second DEATH without PARTS", 0, x -> {
            x.death(0);
            return x.death(0);
        });
    }

    private static void deathRefused() {
        e.on(Books::rich);
        e.refusesEach("8: BEYOND", BEYOND, Edges.NO_PERSON, (x, person) -> x.death(person));
        e.refuses("8: MISSING: it has no HEIRS, but PARTS", MISSING, x -> x.death(2));
        e.refuses("8: MISSING: it has no HEIRS, but a LET", MISSING, x -> x.death(6));
        e.refuses("8: MISSING: it has no HEIRS, but DEBTS are owed to it", MISSING, x -> x.death(8));
        e.on(x -> {
            Books.rich(x);
            x.disown(0);
        });
        e.refuses("8: MISSING: its HEIRS were disowned", MISSING, x -> x.death(0));
    }
}
