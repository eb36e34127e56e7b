/** Boundary cases of the promises 1 to 4: a new object, shop, look, has. */
public final class EdgesOfShopsTest {
    private static final int MISSING = BazaarBook.MISSING;
    private static final int BEYOND = BazaarBook.BEYOND;
    private static final int KIND = BazaarBook.KIND;
    private static final int NO = BazaarBook.NO;
    private static final int FULL = BazaarBook.FULL;
    private static final int NONE = BazaarBook.NONE;

    private static final Edges e = new Edges();

    public static void main(String[] args) {
        newObject();
        streetsArchesPersons();
        shopBeyond();
        shopWorth();
        shopHazard();
        shopFull();
        shopFirstOfSeveral();
        lookAtShops();
        lookAtLets();
        lookAtPawns();
        lookRefused();
        hasRefused();
        e.end();
    }

    private static void newObject() {
        e.on(Books::empty);
        e.answers("1: the open DAY is 0 at first", 0, x -> x.count(0));
        e.answers("1: no SHOPS", 0, x -> x.count(1));
        e.answers("1: no RULES", 0, x -> x.count(2));
        e.answers("1: THE TAPE is empty, by count()", 0, x -> x.count(3));
        e.answers("1: THE TAPE is empty, by wipe()", 0, x -> x.wipe());
        e.answers("1: no LETS", 0, x -> x.count(4));
        e.answers("1: no PAWNS", 0, x -> x.count(5));
        for (int p = 0; p < 10; p++) {
            int person = p;
            e.answers("1: PURSES 0", 0, x -> x.purse(person));
            e.answers("1: no HEIRS", 0, x -> x.disown(person));
        }
        for (int a = 0; a < 6; a++) {
            int arch = a;
            e.answers("4: an ARCH takes 1 day at first", 1, x -> x.takes(arch, 9));
        }
        e.answers("31: THE ROW is missing at first", 0, x -> x.tear());
        e.refuses("25: there was no plan() at first", MISSING, x -> x.planned(0, false));
        e.answers("1: the first SHOP is 0", 0, x -> x.shop(0, 1, 1));
        e.answers("1: the first RULE is 0", 0, x -> Check.rule(x, "ban 1", 0, 1));
        for (int by = FULL; by <= MISSING; by++) {
            int refusal = by;
            e.answers("1: no call was refused", 0, x -> x.status(refusal));
        }
    }

    private static void streetsArchesPersons() {
        e.on(Books::empty);
        for (int i = 0; i <= 4; i++) {
            int street = i;
            e.answers("STREETS 0 .. 4", street, x -> {
                x.shop(100 * street, 1, 1);
                return x.look(0, 0);
            });
        }
        for (int i = 0; i <= 5; i++) {
            int arch = i;
            e.answers("ARCHES 0 .. 5", arch, x -> {
                x.shop(400 + 10 * arch, 1, 1);
                return x.look(0, 1);
            });
        }
        for (int i = 0; i <= 9; i++) {
            int person = i;
            e.answers("PERSONS 0 .. 9, all PARTS of the WALL", 5040, x -> {
                x.shop(450 + person, 1, 1);
                return x.has(0, 0, person);
            });
            e.answers("PERSONS 0 .. 9, all PARTS of the SEAT", 5040, x -> {
                x.shop(450 + person, 1, 1);
                return x.has(0, 1, person);
            });
        }
    }

    private static void shopBeyond() {
        e.on(Books::rich);
        e.answers("2: told 459 is the greatest", 3, x -> x.shop(459, 1, 1));
        e.answers("2: told 59 is under ARCH 5", 3, x -> x.shop(59, 1, 1));
        e.answers("2: told 400 is on STREET 4", 3, x -> x.shop(400, 1, 1));
        e.answers("2: told 0 is the least", 3, x -> x.shop(0, 1, 1));
        e.refusesEach("2: BEYOND (told below 0, too)", BEYOND,
                new int[] {-1, -10, -100, -459, Edges.LEAST}, (x, told) -> x.shop(told, 1, 1));
        e.refusesEach("2: BEYOND: STREET", BEYOND,
                new int[] {500, 501, 559, 900, 1000, 10000, Edges.MOST}, (x, told) -> x.shop(told, 1, 1));
        e.refusesEach("2: BEYOND: ARCH", BEYOND,
                new int[] {60, 69, 90, 99, 160, 460, 499}, (x, told) -> x.shop(told, 1, 1));
    }

    private static void shopWorth() {
        e.on(Books::rich);
        e.answersEach("2: WORTH (1 .. 9999)", 3, new int[] {1, 2, 9998, 9999}, (x, worth) -> x.shop(0, worth, 1));
        e.refusesEach("2: NO: WORTH", NO, new int[] {0, -1, 10000, Edges.LEAST, Edges.MOST},
                (x, worth) -> x.shop(0, worth, 1));
        e.answers("2: the least WORTH is kept", 1, x -> {
            x.shop(0, 1, 9);
            return x.look(3, 2);
        });
        e.answers("2: the greatest WORTH is kept", 9999, x -> {
            x.shop(0, 9999, 9);
            return x.look(3, 2);
        });
    }

    private static void shopHazard() {
        e.on(Books::rich);
        e.answersEach("2: HAZARD (1 .. 9)", 3, new int[] {1, 2, 8, 9}, (x, hazard) -> x.shop(0, 1, hazard));
        e.refusesEach("2: NO: HAZARD", NO, new int[] {0, -1, 10, Edges.LEAST, Edges.MOST},
                (x, hazard) -> x.shop(0, 1, hazard));
        e.answers("2: the least HAZARD is kept", 1, x -> {
            x.shop(0, 50, 1);
            return x.look(3, 3);
        });
        e.answers("2: the greatest HAZARD is kept", 9, x -> {
            x.shop(0, 50, 9);
            return x.look(3, 3);
        });
    }

    private static void shopFull() {
        e.on(x -> {
            for (int s = 0; s < 13; s++) {
                x.shop(s, 1, 1);
            }
        });
        e.answers("2: SHOPS 0 .. 13: the last one", 13, x -> x.shop(459, 1, 1));
        e.on(Books::full);
        e.refuses("2: FULL", FULL, x -> x.shop(459, 1, 1));
    }

    private static void shopFirstOfSeveral() {
        e.on(Books::rich);
        e.refuses("2: BEYOND (told below 0) ahead of NO (WORTH)", BEYOND, x -> x.shop(-1, 0, 1));
        e.refuses("2: BEYOND (STREET) ahead of NO (WORTH)", BEYOND, x -> x.shop(500, 0, 1));
        e.refuses("2: BEYOND (STREET) ahead of NO (HAZARD)", BEYOND, x -> x.shop(500, 1, 10));
        e.refuses("2: BEYOND (ARCH) ahead of NO (WORTH)", BEYOND, x -> x.shop(60, 10000, 1));
        e.refuses("2: BEYOND (ARCH) ahead of NO (HAZARD)", BEYOND, x -> x.shop(60, 1, 0));
        e.on(Books::full);
        e.refuses("2: BEYOND (told below 0) ahead of FULL", BEYOND, x -> x.shop(-1, 1, 1));
        e.refuses("2: BEYOND (STREET) ahead of FULL", BEYOND, x -> x.shop(500, 1, 1));
        e.refuses("2: BEYOND (ARCH) ahead of FULL", BEYOND, x -> x.shop(60, 1, 1));
        e.refuses("2: NO (WORTH) ahead of FULL", NO, x -> x.shop(0, 0, 1));
        e.refuses("2: NO (HAZARD) ahead of FULL", NO, x -> x.shop(0, 1, 10));
        e.refuses("2: BEYOND ahead of NO and FULL", BEYOND, x -> x.shop(-1, 0, 0));
    }

    private static void lookAtShops() {
        e.on(Books::full);
        e.answers("3: STREET of the first SHOP", 0, x -> x.look(0, 0));
        e.answers("3: STREET (what = 0) of the last SHOP", 3, x -> x.look(13, 0));
        e.answers("3: ARCH (1)", 1, x -> x.look(13, 1));
        e.answers("3: WORTH (2)", 1400, x -> x.look(13, 2));
        e.answers("3: HAZARD (3)", 5, x -> x.look(13, 3));
    }

    private static void lookAtLets() {
        e.on(Books::rich);
        e.answers("3: to whom it is LET (4)", 6, x -> x.look(0, 4));
        e.answers("3: through which DAY (5)", 9, x -> x.look(0, 5));
        e.answers("3: RENT (6)", 10, x -> x.look(0, 6));
        e.answers("3: to whom it is LET, on the last DAY", 7, x -> x.look(1, 4));
        e.answers("3: through which DAY, on the last DAY", 5, x -> x.look(1, 5));
        e.answers("3: RENT, on the last DAY", 999, x -> x.look(1, 6));
        for (int what = 4; what <= 6; what++) {
            int asked = what;
            e.answers("3: NONE of a SHOP that never was LET, what = " + what, NONE, x -> x.look(2, asked));
            e.answers("3: NONE behind the last DAY, what = " + what, NONE, x -> {
                x.run(1);
                return x.look(1, asked);
            });
        }
        e.answers("3: a LET to PERSON 0 is not NONE", 0, x -> {
            x.let(2, 20, 5, 0);
            return x.look(2, 4);
        });
        e.answers("3: RENT 0 is not NONE", 0, x -> {
            x.let(2, 20, 5, 0);
            return x.look(2, 6);
        });
        e.on(Books::empty);
        e.answers("3: DAY 0 is not NONE", 0, x -> {
            x.shop(0, 1, 1);
            x.let(0, 1, 0, 1);
            return x.look(0, 5);
        });
    }

    private static void lookAtPawns() {
        e.on(Books::rich);
        e.answers("3: how many PAWNS (7)", 2, x -> x.look(0, 7));
        e.answers("3: no PAWNS", 0, x -> x.look(1, 7));
        e.answers("3: all DEBTS (8)", 400, x -> x.look(0, 8));
        e.answers("3: no DEBTS", 0, x -> x.look(1, 8));
        e.answers("3: DEBTS as great as WORTH", 40, x -> x.look(2, 8));
        e.on(Books::full);
        e.answers("3: as many PAWNS as there may be", 8, x -> x.look(13, 7));
        e.answers("3: all DEBTS of them", 8 * 10 + 28, x -> x.look(13, 8));
    }

    private static void lookRefused() {
        e.on(Books::empty);
        e.refuses("3: BEYOND: there are no SHOPS", BEYOND, x -> x.look(0, 0));
        e.on(Books::rich);
        for (int i = 0; i <= 8; i++) {
            int what = i;
            e.refusesEach("3: BEYOND, what = " + what, BEYOND, Edges.NO_SHOP, (x, shop) -> x.look(shop, what));
        }
        e.refusesEach("3: NO", NO, new int[] {-1, 9, Edges.LEAST, Edges.MOST}, (x, what) -> x.look(0, what));
        e.refuses("3: BEYOND ahead of NO (too small)", BEYOND, x -> x.look(-1, -1));
        e.refuses("3: BEYOND ahead of NO (too large)", BEYOND, x -> x.look(3, 9));
        e.on(Books::full);
        e.refuses("3: BEYOND behind the last SHOP", BEYOND, x -> x.look(14, 0));
    }

    private static void hasRefused() {
        e.on(Books::empty);
        e.refuses("4: BEYOND: there are no SHOPS", BEYOND, x -> x.has(0, 0, 0));
        e.on(Books::rich);
        e.answers("4: PARTS of the WALL (0)", 4040, x -> x.has(0, 0, 0));
        e.answers("4: PARTS of the SEAT (1)", 5000, x -> x.has(0, 1, 0));
        e.answers("4: none", 0, x -> x.has(0, 0, 9));
        e.answers("4: all", 5040, x -> x.has(2, 1, 2));
        e.refusesEach("4: BEYOND: SHOP", BEYOND, Edges.NO_SHOP, (x, shop) -> x.has(shop, 0, 0));
        e.refusesEach("4: BEYOND: PERSON", BEYOND, Edges.NO_PERSON, (x, person) -> x.has(0, 1, person));
        e.refusesEach("4: KIND: another one", KIND, Edges.NO_KIND, (x, kind) -> x.has(0, kind, 0));
        e.refusesEach("4: BEYOND (SHOP) ahead of KIND", BEYOND, Edges.NO_KIND, (x, kind) -> x.has(3, kind, 0));
        e.refusesEach("4: BEYOND (PERSON) ahead of KIND", BEYOND, Edges.NO_KIND, (x, kind) -> x.has(0, kind, 10));
        e.on(Books::full);
        e.answers("4: the last SHOP, its owner", 5040, x -> x.has(13, 1, 3));
        e.answers("4: the last PERSON", 5040, x -> x.has(9, 0, 9));
        e.refuses("4: BEYOND behind the last SHOP", BEYOND, x -> x.has(14, 0, 0));
    }
}
