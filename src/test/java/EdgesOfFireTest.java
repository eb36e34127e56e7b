/** Boundary cases of the promises 26 to 29: burns, lost, stop, count. */
public final class EdgesOfFireTest {
    private static final int BEYOND = BazaarBook.BEYOND;
    private static final int NO = BazaarBook.NO;
    private static final int NONE = BazaarBook.NONE;
    /** None of these is a set of shops of Books.rich(). */
    private static final int[] NO_SET = {-1, -8, 8, 9, 15, 1 << 13, 1 << 14, Edges.LEAST, Edges.MOST};

    private static final Edges e = new Edges();

    public static void main(String[] args) {
        besideOneAnother();
        minutes();
        opened();
        burnsRefused();
        lostByThen();
        lostRefused();
        stopLeast();
        stopHalves();
        stopTies();
        stopRefused();
        counts();
        e.end();
    }

    private static void besideOneAnother() {
        e.on(x -> {
            x.shop(0, 1, 1);
            x.shop(110, 1, 1);
            x.shop(20, 1, 1);
            x.shop(230, 1, 1);
            x.shop(40, 1, 1);
            x.shop(310, 1, 1);
        });
        e.answers("26: next on the STREET, with one of another STREET between", 1, x -> x.burns(0, 2, 0));
        e.answers("26: not next, but one further on the STREET", 2, x -> x.burns(0, 4, 0));
        e.answers("26: back along the STREET", 2, x -> x.burns(4, 0, 0));
        e.answers("26: under one ARCH", 1, x -> x.burns(1, 5, 0));
        e.answers("26: on another STREET under another ARCH", NONE, x -> x.burns(0, 1, 0));
        e.answers("26: alone", NONE, x -> x.burns(3, 0, 0));
        e.answers("26: an OPENED one is next on its STREET all the same", NONE, x -> x.burns(0, 4, 1 << 2));
        e.on(x -> {
            x.shop(0, 1, 9);
            x.shop(0, 1, 9);
            x.shop(0, 1, 9);
        });
        e.answers("26: under one ARCH, not next on the STREET", 9, x -> x.burns(0, 2, 0));
        e.answers("26: under one ARCH, past an OPENED one", 9, x -> x.burns(0, 2, 2));
        e.on(x -> {
            for (int s = 0; s < 14; s++) {
                x.shop(s % 6 * 10, 1, 9);
            }
        });
        e.answers("26: the last of 14 SHOPS", 2 * 9, x -> x.burns(0, 13, 0));
        e.on(x -> {
            for (int s = 0; s < 6; s++) {
                x.shop(10 * s, 1, 9);
            }
        });
        e.answers("26: the whole STREET, one behind the other", 5 * 9, x -> x.burns(0, 5, 0));
    }

    private static void minutes() {
        e.on(x -> {
            x.shop(0, 1, 9);
            x.shop(10, 1, 1);
            x.shop(20, 1, 9);
            x.shop(100, 1, 4);
            x.shop(120, 1, 1);
        });
        // from 0: 1 at 1, 3 at 4, 4 at 5, and 2 at 10 by 1, which burns ahead of 4
        e.answers("26: the one that burns first", 0, x -> x.burns(0, 0, 0));
        e.answers("26: HAZARD, its own, the least", 1, x -> x.burns(0, 1, 0));
        e.answers("26: HAZARD, its own, the greatest", 9, x -> x.burns(1, 0, 0));
        e.answers("26: behind the first that burns beside it", 10, x -> x.burns(0, 2, 0));
        e.answers("26: behind another one, if the first is OPENED", 14, x -> x.burns(0, 2, 2));
    }

    private static void opened() {
        e.on(Books::rich);
        e.answers("26: none OPENED", 2, x -> x.burns(0, 1, 0));
        e.answers("26: it is OPENED itself", NONE, x -> x.burns(0, 1, 2));
        e.answers("26: the only way is OPENED", NONE, x -> x.burns(0, 2, 2));
        e.answers("26: one behind it is OPENED", 2, x -> x.burns(0, 1, 4));
        e.answers("26: all others are OPENED", 0, x -> x.burns(0, 0, 6));
        e.answers("26: all others are OPENED, the last one burns first", 0, x -> x.burns(2, 2, 3));
    }

    private static void burnsRefused() {
        e.on(Books::empty);
        e.refuses("26: BEYOND: there are no SHOPS", BEYOND, x -> x.burns(0, 0, 0));
        e.on(Books::rich);
        e.refusesEach("26: BEYOND: the one that burns first", BEYOND, Edges.NO_SHOP, (x, from) -> x.burns(from, 0, 0));
        e.refusesEach("26: BEYOND: SHOP", BEYOND, Edges.NO_SHOP, (x, shop) -> x.burns(0, shop, 0));
        e.refusesEach("26: BEYOND: bits", BEYOND, NO_SET, (x, set) -> x.burns(0, 1, set));
        e.refusesEach("26: NO: the one that burns first is OPENED", NO, new int[] {1, 3, 5, 7},
                (x, set) -> x.burns(0, 1, set));
        e.refuses("26: NO: the last one burns first and is OPENED", NO, x -> x.burns(2, 0, 4));
        e.refuses("26: NO, asked of itself", NO, x -> x.burns(0, 0, 1));
        e.refuses("26: BEYOND (SHOP) ahead of NO", BEYOND, x -> x.burns(0, 3, 1));
        e.refuses("26: BEYOND (SHOP below 0) ahead of NO", BEYOND, x -> x.burns(0, -1, 1));
        e.refuses("26: BEYOND (bits) ahead of NO", BEYOND, x -> x.burns(0, 1, 9));
        e.refuses("26: BEYOND (bits below 0) ahead of NO", BEYOND, x -> x.burns(0, 1, -1));
        e.on(Books::full);
        e.answers("26: all bits but the first", 0, x -> x.burns(0, 0, (1 << 14) - 2));
        e.answers("26: the last bit", NONE, x -> x.burns(0, 13, 1 << 13));
        e.refuses("26: BEYOND: one bit more", BEYOND, x -> x.burns(0, 1, 1 << 14));
        e.refuses("26: BEYOND behind the last SHOP", BEYOND, x -> x.burns(0, 14, 0));
    }

    private static void lostByThen() {
        e.on(Books::rich);
        e.answers("27: minute 0: the one that burns first", 500, x -> x.lost(0, 0, 0));
        e.answers("27: one minute ahead of the next", 500, x -> x.lost(0, 1, 0));
        e.answers("27: those that burn by then: at that minute, too", 500 + 9999, x -> x.lost(0, 2, 0));
        e.answers("27: the last one", 500 + 9999 + 40, x -> x.lost(0, 3, 0));
        e.answers("27: minute 999", 500 + 9999 + 40, x -> x.lost(0, 999, 0));
        e.answers("27: an OPENED one isn't LOST", 500, x -> x.lost(0, 999, 2));
        e.answers("27: all others OPENED", 40, x -> x.lost(2, 999, 3));
        e.on(x -> {
            for (int s = 0; s < 14; s++) {
                x.shop(0, 9999, 9);
            }
        });
        e.answers("27: the most that can be LOST", 14 * 9999, x -> x.lost(13, 999, 0));
        e.answers("27: one minute ahead of that", 9999, x -> x.lost(13, 8, 0));
    }

    private static void lostRefused() {
        e.on(Books::empty);
        e.refuses("27: BEYOND: there are no SHOPS", BEYOND, x -> x.lost(0, 0, 0));
        e.on(Books::rich);
        e.refusesEach("27: BEYOND: SHOP", BEYOND, Edges.NO_SHOP, (x, from) -> x.lost(from, 0, 0));
        e.refusesEach("27: BEYOND: bits", BEYOND, NO_SET, (x, set) -> x.lost(0, 0, set));
        e.refusesEach("27: NO: the one that burns first is OPENED", NO, new int[] {1, 3, 5, 7},
                (x, set) -> x.lost(0, 0, set));
        e.refusesEach("27: NO: the minute", NO, new int[] {-1, 1000, Edges.LEAST, Edges.MOST},
                (x, minute) -> x.lost(0, minute, 0));
        e.refuses("27: BEYOND (SHOP) ahead of NO (the minute)", BEYOND, x -> x.lost(3, -1, 0));
        e.refuses("27: BEYOND (bits) ahead of NO (the minute)", BEYOND, x -> x.lost(0, 1000, 8));
        e.refuses("27: BEYOND (bits) ahead of NO (OPENED)", BEYOND, x -> x.lost(0, 0, 9));
        e.refuses("27: BEYOND (bits below 0) ahead of NO (OPENED)", BEYOND, x -> x.lost(0, 0, -1));
        e.on(Books::full);
        e.answers("27: all bits but the first", 100, x -> x.lost(0, 999, (1 << 14) - 2));
        e.refuses("27: BEYOND: one bit more", BEYOND, x -> x.lost(0, 0, 1 << 14));
        e.refuses("27: BEYOND behind the last SHOP", BEYOND, x -> x.lost(14, 0, 0));
    }

    private static void stopLeast() {
        e.on(x -> {
            x.shop(0, 100, 1);
            x.shop(110, 10, 1);
            x.shop(10, 20, 2);
            x.shop(100, 30, 3);
            x.shop(200, 40, 1);
        });
        // from 0: 4 at 1, 2 at 2, 3 at 3, 1 at 3; beside 0 are 2, 3, 4, and 1 is beside 2, 3
        e.answers("28: k = 0: none", 0, x -> x.stop(0, 999, 0));
        e.answers("28: k = 1: none before anything else burns", 0, x -> x.stop(0, 0, 1));
        e.answers("28: k = 1: the one that burns by that minute", 1 << 4, x -> x.stop(0, 1, 1));
        e.answers("28: k = 1", 1 << 4, x -> x.stop(0, 999, 1));
        e.answers("28: k = 2: so many, or fewer", 1 << 4, x -> x.stop(0, 1, 2));
        e.answers("28: k = 2, two at minute 2", 1 << 4 | 1 << 2, x -> x.stop(0, 2, 2));
        // at minute 3: 2, 4 opened 130 + 30; at minute 4, when 1 burns, too: 140 + 30, but 3, 4 opened
        // 130 + 35, and 2, 3 opened 140 + 25
        e.answers("28: k = 2, two at minute 3", 1 << 4 | 1 << 2, x -> x.stop(0, 3, 2));
        e.answers("28: k = 2, the least set of two at minute 4", 1 << 3 | 1 << 2, x -> x.stop(0, 4, 2));
        e.on(x -> {
            x.shop(0, 1, 1);
            x.shop(0, 9999, 1);
        });
        e.answers("28: not the one that burns first", 1, x -> x.stop(1, 999, 1));
        e.answers("28: not the one that burns first, of two", 1, x -> x.stop(1, 999, 2));
        e.on(x -> {
            x.shop(0, 20, 1);
            x.shop(100, 30, 1);
            x.shop(200, 1, 1);
            x.shop(300, 10, 1);
        });
        // of all others 0 and 1 are dearest, and each saves its half
        e.answers("28: the two first SHOPS", 1 | 2, x -> x.stop(2, 999, 2));
        e.on(x -> {
            x.shop(0, 30, 1);
            x.shop(100, 20, 1);
            x.shop(10, 1, 1);
        });
        // from 2, by 0 to 1: 0 opened costs 1 + 15, 1 opened 31 + 10, both 1 + 25
        e.answers("28: half the WORTH of the first SHOP, too", 1, x -> x.stop(2, 999, 2));
        e.on(x -> {
            x.shop(0, 30, 1);
            x.shop(100, 20, 1);
            x.shop(200, 1, 1);
        });
        // from 2: 0 opened costs 21 + 15, 1 opened 31 + 10
        e.answers("28: the first SHOP, of one", 1, x -> x.stop(2, 999, 1));
        e.on(x -> {
            x.shop(0, 30, 1);
            x.shop(100, 40, 1);
            x.shop(200, 1, 1);
        });
        // from 2: 0 opened costs 41 + 15, 1 opened 31 + 20
        e.answers("28: half the WORTH of the first SHOP counts", 2, x -> x.stop(2, 999, 1));
        e.on(x -> {
            x.shop(0, 9, 1);
            x.shop(110, 6, 1);
            x.shop(100, 4, 1);
            x.shop(10, 2, 1);
        });
        // from 2, beside it 0 and 1: none 21; 0: 12 + 4; 1: 15 + 3, as 3 burns by 0; 3: 19 + 1; 0, 1: 4 + 7
        e.answers("28: both ways", 1 | 2, x -> x.stop(2, 999, 2));
        e.on(x -> x.shop(0, 9999, 1));
        e.answers("28: a single SHOP", 0, x -> x.stop(0, 999, 2));
        e.on(Books::full);
        // from 1 burn 13 at 5, of worth 1400, and 6 at 7, of worth 700
        e.answers("28: the last bit", 1 << 13, x -> x.stop(1, 5, 2));
        e.answers("28: the last bit and another one", 1 << 13 | 1 << 6, x -> x.stop(1, 7, 2));
    }

    private static void stopHalves() {
        e.on(x -> {
            x.shop(0, 5, 1);
            x.shop(100, 1, 1);
        });
        e.answers("28: half the WORTH of 1, cut, is none", 2, x -> x.stop(0, 999, 1));
        e.on(x -> {
            x.shop(0, 5, 1);
            x.shop(100, 3, 1);
            x.shop(110, 1, 1);
        });
        // 1 opened: 5 + 1; 2 opened: 5 + 3 + 0; both: 5 + 2
        e.answers("28: cut, together", 2, x -> x.stop(0, 999, 2));
        e.on(x -> {
            x.shop(0, 1, 1);
            x.shop(100, 3, 1);
            x.shop(200, 3, 1);
        });
        // one opened: 1 + 3 + 1; both: 1 + 3
        e.answers("28: together, less than one", 6, x -> x.stop(0, 999, 2));
        e.on(x -> {
            x.shop(0, 1, 1);
            x.shop(110, 2, 1);
            x.shop(10, 1, 1);
        });
        // none: 4; 2 opened: 1 + 0; 1 opened: 2 + 1
        e.answers("28: one way to all others", 4, x -> x.stop(0, 999, 1));
    }

    private static void stopTies() {
        e.on(x -> {
            x.shop(0, 1, 1);
            x.shop(110, 4, 1);
            x.shop(10, 8, 1);
        });
        // none: 13; 1: 9 + 2; 2: 1 + 4; from 1, none: 13; 0: 12; 2: 4 + 4
        e.answers("28: the least", 4, x -> x.stop(0, 999, 2));
        e.on(x -> {
            x.shop(0, 5, 1);
            x.shop(100, 1, 1);
            x.shop(200, 1, 1);
        });
        // one opened: 5 + 1 + 0; both: 5 + 1
        e.answers("28: of these the fewest: one, not two", 2, x -> x.stop(0, 999, 2));
        e.on(x -> {
            x.shop(0, 5, 1);
            x.shop(100, 2, 9);
            x.shop(210, 1, 1);
        });
        // at minute 8 nothing else burns; opening 2, of WORTH 1, costs nothing
        e.answers("28: of these the fewest: none, not one", 0, x -> x.stop(0, 8, 2));
        e.on(x -> {
            x.shop(0, 5, 1);
            x.shop(100, 6, 1);
            x.shop(200, 6, 1);
            x.shop(300, 6, 1);
        });
        e.answers("28: then the least set (bits), of one", 2, x -> x.stop(0, 999, 1));
        e.answers("28: then the least set (bits), of two", 6, x -> x.stop(0, 999, 2));
        e.answers("28: then the least set (bits), without the one that burns first", 1 | 4, x -> x.stop(1, 999, 2));
        e.on(x -> {
            x.shop(0, 5, 1);
            x.shop(100, 6, 1);
            x.shop(200, 8, 1);
            x.shop(300, 8, 1);
            x.shop(400, 6, 1);
        });
        // 2 and 3 save 8, as no other two do; 2 or 3 alone saves 4
        e.answers("28: the least ahead of the least set", 4 | 8, x -> x.stop(0, 999, 2));
        e.answers("28: the least ahead of the least set, of one", 4, x -> x.stop(0, 999, 1));
        e.on(x -> {
            x.shop(0, 1, 1);
            x.shop(100, 6, 1);
            x.shop(200, 8, 1);
            x.shop(300, 4, 1);
            x.shop(400, 6, 1);
        });
        // 1, 2 and 2, 4 save as much: 6 is less than 20
        e.answers("28: the least of two sets with one SHOP in both", 2 | 4, x -> x.stop(0, 999, 2));
    }

    private static void stopRefused() {
        e.on(Books::empty);
        e.refuses("28: BEYOND: there are no SHOPS", BEYOND, x -> x.stop(0, 0, 0));
        e.on(Books::rich);
        e.refusesEach("28: BEYOND", BEYOND, Edges.NO_SHOP, (x, from) -> x.stop(from, 0, 0));
        e.refusesEach("28: NO: the minute", NO, new int[] {-1, 1000, Edges.LEAST, Edges.MOST},
                (x, minute) -> x.stop(0, minute, 0));
        e.refusesEach("28: NO: k", NO, new int[] {-1, 3, Edges.LEAST, Edges.MOST}, (x, k) -> x.stop(0, 0, k));
        e.refuses("28: BEYOND ahead of NO (the minute)", BEYOND, x -> x.stop(3, 1000, 0));
        e.refuses("28: BEYOND ahead of NO (k)", BEYOND, x -> x.stop(-1, 0, 3));
        e.answers("28: minute 999", 2, x -> x.stop(0, 999, 1));
        e.answers("28: minute 0", 0, x -> x.stop(0, 0, 2));
        e.on(Books::full);
        e.refuses("28: BEYOND behind the last SHOP", BEYOND, x -> x.stop(14, 0, 0));
    }

    private static void counts() {
        e.on(Books::rich);
        int[] rich = {5, 3, 2, 11, 2, 3};
        String[] words = {"the open DAY (what = 0)", "SHOPS (1)", "RULES (2)", "bytes of THE TAPE (3)",
            "LETS that last (4)", "PAWNS in all (5)"};
        for (int i = 0; i < rich.length; i++) {
            int what = i;
            e.answers("29: " + words[what], rich[what], x -> x.count(what));
        }
        e.refusesEach("29: NO", NO, new int[] {-1, 6, Edges.LEAST, Edges.MOST}, (x, what) -> x.count(what));
        e.on(Books::full);
        int[] full = {0, 14, 10, 80, 1, 10};
        for (int i = 0; i < full.length; i++) {
            int what = i;
            e.answers("29: full, " + words[what], full[what], x -> x.count(what));
        }
        e.on(x -> {
            for (int s = 0; s < 14; s++) {
                x.shop(0, 9999, 1);
                x.let(s, 1, 0, 0);
                for (int i = 0; i < 8; i++) {
                    x.pawn(s, 1, 1);
                }
            }
        });
        e.answers("29: as many LETS as there may be", 14, x -> x.count(4));
        e.answers("29: as many PAWNS as there may be", 112, x -> x.count(5));
        e.answers("29: LETS that last: none behind their last DAY", 0, x -> {
            x.run(1);
            return x.count(4);
        });
    }
}
