/** Boundary cases of the promises 16 to 21: feed, wipe, rule, may, why, run. */
public final class EdgesOfRulesTest {
    private static final int BEYOND = BazaarBook.BEYOND;
    private static final int BELOW = BazaarBook.BELOW;
    private static final int NO = BazaarBook.NO;
    private static final int FULL = BazaarBook.FULL;
    private static final int NONE = BazaarBook.NONE;

    private static final Edges e = new Edges();

    public static void main(String[] args) {
        feedCounts();
        feedOrder();
        feedRefused();
        wiped();
        ruleDays();
        ruleFull();
        ruleFirstOfSeveral();
        ruleTape();
        inForce();
        mayTrade();
        mayRefused();
        whyBan();
        whyTax();
        whyQuarrel();
        whyRefused();
        runDays();
        runRents();
        runRefused();
        e.end();
    }

    private static void feedCounts() {
        e.on(Books::empty);
        for (int i = 0; i <= 4; i++) {
            int n = i;
            e.answers("16: n 0 .. 4: how many it has, n = " + n, n, x -> x.feed(-1, n));
        }
        e.on(Books::rich);
        e.answers("16: behind it", 11 + 4, x -> x.feed(0, 4));
        e.answers("16: no byte", 11, x -> x.feed(0, 0));
    }

    private static void feedOrder() {
        e.on(x -> Check.feed(x, "ban "));
        e.answers("16: the highest of these first", 1, x -> {
            x.feed(0x31322069, 4);
            x.feed(0x6620676f, 4);
            x.feed(0x6f643d31, 4);
            x.rule(0, 1);
            return x.count(2);
        });
        e.answers("16: the n lowest bytes: 1 of 4", 0, x -> {
            x.feed(0x7a7a7a37, 1);
            return x.rule(0, 1);
        });
        e.answers("16: the n lowest bytes: 2 of 4", 0, x -> {
            x.feed(0x7a7a3137, 2);
            return x.rule(0, 1);
        });
        e.answers("16: the n lowest bytes: 3 of 4", 0, x -> {
            x.feed(0x7a313233, 3);
            return x.rule(0, 1);
        });
        e.answers("16: the n lowest bytes: all, of a number below 0", -10 - 4, x -> {
            x.feed(0xb1323334, 4);
            return x.rule(0, 1);
        });
        e.answers("16: byte 0 is a byte", -10 - 5, x -> {
            x.feed(0x3100, 2);
            return x.rule(0, 1);
        });
    }

    private static void feedRefused() {
        e.on(Books::rich);
        e.refusesEach("16: BELOW", BELOW, new int[] {-1, -2, Edges.LEAST}, (x, n) -> x.feed(0x31, n));
        e.refusesEach("16: NO: n", NO, new int[] {5, 8, 80, Edges.MOST}, (x, n) -> x.feed(0x31, n));
        e.on(x -> {
            for (int i = 0; i < 19; i++) {
                x.feed(0, 4);
            }
        });
        e.answers("16: 80 at most: just as many", 80, x -> x.feed(0, 4));
        e.answers("16: 80 at most: one fewer", 79, x -> x.feed(0, 3));
        e.on(x -> {
            for (int i = 0; i < 19; i++) {
                x.feed(0, 4);
            }
            x.feed(0, 3);
        });
        e.answers("16: room for one", 80, x -> x.feed(0, 1));
        e.refusesEach("16: FULL: no room for all of them", FULL, new int[] {2, 3, 4}, (x, n) -> x.feed(0, n));
        e.on(Books::full);
        e.refusesEach("16: FULL", FULL, new int[] {1, 4}, (x, n) -> x.feed(0, n));
        e.answers("16: no byte needs no room", 80, x -> x.feed(0, 0));
        e.refusesEach("16: BELOW ahead of FULL", BELOW, new int[] {-1, Edges.LEAST}, (x, n) -> x.feed(0, n));
        e.refusesEach("16: NO ahead of FULL", NO, new int[] {5, Edges.MOST}, (x, n) -> x.feed(0, n));
    }

    private static void wiped() {
        e.on(Books::empty);
        e.answers("17: it had no bytes", 0, x -> x.wipe());
        e.on(Books::rich);
        e.answers("17: how many bytes it had", 11, x -> x.wipe());
        e.answers("17: THE TAPE is empty", 0, x -> {
            x.wipe();
            return x.wipe();
        });
        e.on(Books::full);
        e.answers("17: it was full", 80, x -> x.wipe());
        e.answers("17: there is room again", 4, x -> {
            x.wipe();
            return x.feed(0, 4);
        });
    }

    private static void ruleDays() {
        e.on(x -> Check.feed(x, "ban 1"));
        e.answers("18: from 0, ahead of 1", 0, x -> x.rule(0, 1));
        e.answers("18: from 0, ahead of 100000", 0, x -> x.rule(0, 100000));
        e.answers("18: from 99999, ahead of 100000", 0, x -> x.rule(99999, 100000));
        e.refuses("18: NO: from is not ahead of to, both the least", NO, x -> x.rule(0, 0));
        e.refuses("18: NO: from is not ahead of to, both the greatest", NO, x -> x.rule(100000, 100000));
        e.refuses("18: NO: from is behind to", NO, x -> x.rule(2, 1));
        e.refuses("18: NO: from below 0", NO, x -> x.rule(-1, 5));
        e.refuses("18: NO: both below 0", NO, x -> x.rule(-2, -1));
        e.refuses("18: NO: to above 100000", NO, x -> x.rule(5, 100001));
        e.refuses("18: NO: both above 100000", NO, x -> x.rule(100001, 100002));
        e.refuses("18: NO: from 100000, ahead of one beyond", NO, x -> x.rule(100000, 100001));
        e.refuses("18: NO: the least and the greatest number", NO, x -> x.rule(Edges.LEAST, Edges.MOST));
        e.refuses("18: NO: the greatest and the least number, which wraps around", NO,
                x -> x.rule(Edges.MOST, Edges.LEAST));
    }

    private static void ruleFull() {
        e.on(x -> {
            for (int r = 0; r < 9; r++) {
                Check.rule(x, "tax 1", 0, 9);
            }
            Check.feed(x, "ban 1");
        });
        e.answers("18: RULES 0 .. 9: the last one", 9, x -> x.rule(0, 9));
        e.on(x -> {
            Books.full(x);
            x.wipe();
            Check.feed(x, "ban 1");
        });
        e.refuses("18: FULL", FULL, x -> x.rule(0, 9));
    }

    private static void ruleFirstOfSeveral() {
        e.on(Books::full);
        e.refuses("18: NO (from is not ahead of to) ahead of FULL", NO, x -> x.rule(9, 9));
        e.refuses("18: NO (from below 0) ahead of FULL", NO, x -> x.rule(-1, 9));
        e.refuses("18: NO (to above 100000) ahead of FULL", NO, x -> x.rule(0, 100001));
        e.refuses("18: FULL ahead of the FAULT", FULL, x -> x.rule(0, 9));
        e.on(Books::rich);
        e.refuses("18: NO ahead of the FAULT", NO, x -> x.rule(9, 9));
        e.on(Books::empty);
        e.refuses("18: NO ahead of the FAULT of an empty TAPE", NO, x -> x.rule(-1, 0));
    }

    private static void ruleTape() {
        e.on(x -> Check.feed(x, "ban 1"));
        e.answers("18: THE TAPE is empty then", 0, x -> {
            x.rule(0, 1);
            return x.count(3);
        });
        e.on(Books::empty);
        e.faults("18: the FAULT of an empty TAPE", 0, x -> x.rule(0, 1));
        e.on(Books::rich);
        e.faults("18: THE TAPE stays, and all else", 11, x -> x.rule(0, 1));
        e.on(x -> {
            Check.feed(x, "ban 1234 if not street=1234 and not street=1234 and not person=1234");
            for (int i = 0; i < 13; i++) {
                x.feed(' ', 1);
            }
        });
        e.faults("18: a full TAPE, behind the longest RULE", 67, x -> x.rule(0, 1));
        e.on(x -> {
            for (int i = 0; i < 20; i++) {
                x.feed(0x30303030, 4);
            }
        });
        e.faults("18: a full TAPE, its first byte", 0, x -> x.rule(0, 1));
    }

    private static void inForce() {
        e.on(x -> {
            x.shop(1, 1, 1);
            Check.rule(x, "ban 1", 2, 4);
            Check.rule(x, "ban 2", 0, 1);
        });
        int[] due = {1, 1, 2, 2, 1};
        for (int i = 0; i < due.length; i++) {
            int day = i;
            e.answers("3: in force from a DAY on, ahead of another one, on DAY " + day, due[day], x -> {
                if (day > 0) {
                    x.run(day);
                }
                return x.may(1, 0, 1);
            });
        }
        e.answers("3: in force on DAY 0", 2, x -> x.may(1, 0, 2));
        e.answers("3: not in force on DAY 1", 1, x -> {
            x.run(1);
            return x.may(1, 0, 2);
        });
    }

    private static void mayTrade() {
        e.on(Books::rich);
        e.answers("19: 1 it may, with most PARTS of the SEAT", 1, x -> x.may(0, 0, 2));
        e.answers("19: 1 it may, with one PART of the SEAT", 1, x -> {
            x.sale(100, 9, 1);
            return x.may(9, 0, 3);
        });
        e.answers("19: 1 it may, with a LET that lasts", 1, x -> x.may(6, 0, 3));
        e.answers("19: 1 it may, on the last DAY of a LET", 1, x -> x.may(7, 1, 3));
        e.answers("19: 0 it has no right, behind the last DAY of a LET", 0, x -> {
            x.run(1);
            return x.may(7, 1, 3);
        });
        e.answers("19: 0 it has no right, with PARTS of the WALL alone", 0, x -> x.may(3, 0, 0));
        e.answers("19: 0 it has no right, with a PAWN alone", 0, x -> x.may(8, 0, 0));
        e.answers("19: 0 it has no right, with PARTS of another SHOP", 0, x -> x.may(1, 0, 0));
        e.answers("19: 0 it has no right, with a LET of another SHOP", 0, x -> x.may(6, 1, 0));
        e.answers("19: 2 it is banned, with PARTS", 2, x -> x.may(0, 0, 3));
        e.answers("19: 2 it is banned, with a LET", 2, x -> {
            x.let(2, 20, 5, 1);
            return x.may(0, 2, 3);
        });
        e.answers("19: 0 it has no right, where it would be banned", 0, x -> x.may(0, 2, 3));
        e.on(x -> {
            x.shop(0, 1, 1);
            Check.rule(x, "ban 99 if not good=0", 0, 9);
            Check.rule(x, "ban 10", 0, 9);
            Check.rule(x, "ban 98", 0, 9);
            Check.rule(x, "ban 100", 0, 9);
            Check.rule(x, "ban 9999", 0, 9);
            Check.rule(x, "tax 0", 0, 9);
        });
        e.answers("19: 99 bans GOOD 1", 2, x -> x.may(0, 0, 1));
        e.answers("19: 99 bans GOOD 9", 2, x -> x.may(0, 0, 9));
        e.answers("19: another NUMBER and a tax ban nothing", 1, x -> x.may(0, 0, 0));
        e.on(x -> {
            x.shop(0, 1, 1);
            Check.rule(x, "ban 0", 0, 9);
            Check.rule(x, "ban 0009", 0, 9);
        });
        e.answers("19: GOODS 0 .. 9: the first is banned", 2, x -> x.may(0, 0, 0));
        e.answers("19: GOODS 0 .. 9: the last is banned", 2, x -> x.may(0, 0, 9));
        e.answers("19: GOODS 0 .. 9: another is not", 1, x -> x.may(0, 0, 8));
    }

    private static void mayRefused() {
        e.on(Books::empty);
        e.refuses("19: BEYOND: there are no SHOPS", BEYOND, x -> x.may(0, 0, 0));
        e.on(Books::rich);
        e.refusesEach("19: BEYOND: PERSON", BEYOND, Edges.NO_PERSON, (x, person) -> x.may(person, 0, 0));
        e.refusesEach("19: BEYOND: SHOP", BEYOND, Edges.NO_SHOP, (x, shop) -> x.may(0, shop, 0));
        e.refusesEach("19: BEYOND: GOOD", BEYOND, new int[] {-1, 10, 99, Edges.LEAST, Edges.MOST},
                (x, good) -> x.may(0, 0, good));
        e.refuses("19: BEYOND ahead of no right", BEYOND, x -> x.may(9, 0, 10));
        e.on(Books::full);
        e.answers("19: the last SHOP", 1, x -> x.may(3, 13, 9));
        e.refuses("19: BEYOND behind the last SHOP", BEYOND, x -> x.may(0, 14, 0));
    }

    private static void whyBan() {
        e.on(Books::rich);
        e.answers("20: which RULE bans it (what = 0)", 0, x -> x.why(3, 0, 0));
        e.answers("20: NONE (of 0): another GOOD", NONE, x -> x.why(4, 0, 0));
        e.answers("20: NONE (of 0): another PERSON", NONE, x -> x.why(13, 0, 0));
        e.answers("20: a RULE bans it without a right, too", 0, x -> x.why(3, 2, 0));
        e.on(Books::empty);
        e.answers("20: NONE (of 0): there are no RULES", NONE, x -> {
            x.shop(0, 1, 1);
            return x.why(0, 0, 0);
        });
        e.on(x -> {
            x.shop(0, 1, 1);
            Check.rule(x, "tax 1", 0, 9);
            Check.rule(x, "ban 99 if person=0", 0, 9);
            Check.rule(x, "ban 1", 0, 9);
            for (int r = 3; r < 9; r++) {
                Check.rule(x, "tax 1", 0, 1);
            }
            Check.rule(x, "ban 99 if person=9", 0, 9);
        });
        e.answers("20: the least, which is of 99", 1, x -> x.why(1, 0, 0));
        e.answers("20: the least, which is of the GOOD", 2, x -> x.why(91, 0, 0));
        e.answers("20: the last RULE there may be", 9, x -> x.why(99, 0, 0));
    }

    private static void whyTax() {
        e.on(Books::rich);
        e.answers("20: TAX (1)", 7, x -> x.why(0, 0, 1));
        e.answers("20: TAX 0, when none HOLDS any more", 0, x -> {
            x.run(1);
            return x.why(0, 0, 1);
        });
        e.on(Books::empty);
        e.answers("20: TAX 0, there are no RULES", 0, x -> {
            x.shop(0, 1, 1);
            return x.why(0, 0, 1);
        });
        e.on(x -> {
            x.shop(0, 1, 1);
            Check.rule(x, "tax 9999", 0, 9);
            Check.rule(x, "tax 1 if good=1", 0, 9);
            Check.rule(x, "tax 0 if good=2", 0, 9);
            Check.rule(x, "ban 3", 0, 9);
        });
        e.answers("20: TAX of the only one that HOLDS, the greatest NUMBER", 9999, x -> x.why(3, 0, 1));
        e.answers("20: TAX of the RULE of the greatest number, not of the greatest NUMBER", 1, x -> x.why(1, 0, 1));
        e.answers("20: TAX of the RULE of the greatest number, which is of NUMBER 0", 0, x -> x.why(2, 0, 1));
    }

    private static void whyQuarrel() {
        e.on(Books::rich);
        e.answers("20: QUARREL as 10 * the ban RULE and the tax RULE (2)", 1, x -> x.why(3, 0, 2));
        e.answers("20: NONE (of 2): no ban", NONE, x -> x.why(4, 0, 2));
        e.answers("20: NONE (of 2): no tax any more", NONE, x -> {
            x.run(1);
            return x.why(3, 0, 2);
        });
        e.on(Books::empty);
        e.answers("20: NONE (of 2): there are no RULES", NONE, x -> {
            x.shop(0, 1, 1);
            return x.why(0, 0, 2);
        });
        e.on(x -> {
            x.shop(0, 1, 1);
            Check.rule(x, "tax 0", 0, 9);
            Check.rule(x, "ban 1", 0, 9);
            Check.rule(x, "tax 2 if person=1", 0, 9);
            Check.rule(x, "ban 99", 0, 9);
            Check.rule(x, "tax 3 if not person=2", 0, 9);
            Check.rule(x, "tax 0 if person=2", 0, 9);
        });
        e.answers("20: a tax with NUMBER 0 is in no QUARREL", NONE, x -> x.why(21, 0, 2));
        e.answers("20: the least tax with a NUMBER that isn't 0", 14, x -> x.why(1, 0, 2));
        e.answers("20: the least of both", 12, x -> x.why(11, 0, 2));
        e.answers("20: the least ban, of 99", 32, x -> x.why(15, 0, 2));
        e.on(x -> {
            x.shop(0, 1, 1);
            for (int r = 0; r < 8; r++) {
                Check.rule(x, "tax 0", 0, 9);
            }
            Check.rule(x, "tax 1", 0, 9);
            Check.rule(x, "ban 1", 0, 9);
        });
        e.answers("20: the greatest QUARREL", 98, x -> x.why(1, 0, 2));
        e.on(x -> {
            x.shop(0, 1, 1);
            Check.rule(x, "tax 1", 0, 9);
            Check.rule(x, "ban 1", 0, 9);
        });
        e.answers("20: QUARREL with the first RULE as the tax", 10, x -> x.why(1, 0, 2));
        e.on(x -> {
            x.shop(0, 1, 1);
            for (int r = 0; r < 10; r++) {
                Check.rule(x, "ban 1", 0, 9);
            }
        });
        e.answers("20: NONE (of 2): all RULES that there may be are bans", NONE, x -> x.why(1, 0, 2));
        e.answers("20: TAX 0: all RULES that there may be are bans", 0, x -> x.why(1, 0, 1));
        e.on(x -> {
            x.shop(0, 1, 1);
            for (int r = 0; r < 10; r++) {
                Check.rule(x, "tax 1", 0, 9);
            }
        });
        e.answers("20: NONE (of 0): all RULES that there may be are taxes", NONE, x -> x.why(1, 0, 0));
        e.answers("20: NONE (of 2): all RULES that there may be are taxes", NONE, x -> x.why(1, 0, 2));
    }

    private static void whyRefused() {
        e.on(Books::empty);
        e.refuses("20: BEYOND: there are no SHOPS", BEYOND, x -> x.why(0, 0, 0));
        e.on(Books::rich);
        for (int i = 0; i <= 2; i++) {
            int what = i;
            e.refusesEach("20: BEYOND (told below 0, too), what = " + what, BEYOND, Edges.NO_PAIR,
                    (x, told) -> x.why(told, 0, what));
            e.refusesEach("20: BEYOND: SHOP, what = " + what, BEYOND, Edges.NO_SHOP,
                    (x, shop) -> x.why(0, shop, what));
        }
        e.answers("20: told 99 is the greatest", NONE, x -> x.why(99, 0, 0));
        e.refusesEach("20: NO", NO, new int[] {-1, 3, Edges.LEAST, Edges.MOST}, (x, what) -> x.why(0, 0, what));
        e.refuses("20: BEYOND (told) ahead of NO", BEYOND, x -> x.why(100, 0, 3));
        e.refuses("20: BEYOND (told below 0) ahead of NO", BEYOND, x -> x.why(-1, 0, -1));
        e.refuses("20: BEYOND (SHOP) ahead of NO", BEYOND, x -> x.why(0, 3, 3));
        e.on(Books::full);
        e.refuses("20: BEYOND behind the last SHOP", BEYOND, x -> x.why(0, 14, 0));
    }

    private static void runDays() {
        e.on(Books::empty);
        for (int n : new int[] {1, 2, 99, 100}) {
            e.answers("21: n DAYS (1 .. 100) go by, n = " + n, n, x -> {
                x.run(n);
                return x.count(0);
            });
        }
        e.answers("21: no RENTS", 0, x -> x.run(100));
    }

    private static long purseAfter(BazaarBook x, int days, int person) {
        x.run(days);
        return x.purse(person);
    }

    private static void runRents() {
        e.on(Books::rich);
        e.answers("21: RENTS paid in all", 1009, x -> x.run(1));
        e.answers("21: a LET is paid on its last DAY, not behind it", 1019, x -> x.run(2));
        e.answers("21: through the last DAY of the other one", 999 + 5 * 10, x -> x.run(5));
        e.answers("21: not behind it, in one call", 999 + 5 * 10, x -> x.run(6));
        e.answers("21: not behind it, in many DAYS", 999 + 5 * 10, x -> x.run(100));
        e.answers("21: not behind it, in a second call", 0, x -> {
            x.run(5);
            return x.run(1);
        });
        e.answers("21: on the last DAY in a second call", 10, x -> {
            x.run(4);
            return x.run(1);
        });
        e.answers("21: LETS whose last DAY is past end", 1, x -> {
            x.run(1);
            return x.count(4);
        });
        e.answers("21: a LET is there on its last DAY", 1, x -> {
            x.run(4);
            return x.count(4);
        });
        e.answers("21: all ended", 0, x -> {
            x.run(5);
            return x.count(4);
        });
        e.answers("21: from the PURSE of the one who sits there, below 0", -50, x -> purseAfter(x, 100, 6));
        // of 10 by 5000 and 40 of 5040 parts: 9 and 0, cut, and 1 is left, on each day anew
        e.answers("21: cut and left on each DAY anew, the first", 50, x -> purseAfter(x, 100, 0));
        e.answers("21: cut on each DAY anew, the other", 0, x -> purseAfter(x, 100, 4));
        e.answers("21: to those with PARTS of the SEAT, not of the WALL", 0, x -> purseAfter(x, 100, 3));
        e.answers("21: RENT 0 is paid", 1009, x -> {
            x.let(2, 29, 5, 0);
            return x.run(1);
        });
        e.answers("21: one who sits on its own SEAT", 0, x -> {
            x.let(2, 22, 5, 999);
            return purseAfter(x, 1, 2);
        });
        e.on(x -> {
            for (int s = 0; s < 14; s++) {
                x.shop(0, 1, 1);
                x.let(s, 1, 100000, 999);
            }
        });
        e.answers("21: the most RENTS that one call can pay", 14 * 100 * 999, x -> x.run(100));
        e.answers("21: the PURSE of the one who sits in all", -14L * 100 * 999, x -> purseAfter(x, 100, 1));
    }

    private static void runRefused() {
        e.on(Books::rich);
        e.refusesEach("21: BELOW", BELOW, new int[] {-1, -100, Edges.LEAST}, (x, n) -> x.run(n));
        e.refusesEach("21: NO", NO, new int[] {0, 101, 1000, Edges.MOST}, (x, n) -> x.run(n));
    }
}
