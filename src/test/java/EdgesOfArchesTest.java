/** Boundary cases of the promises 22 to 25: repair, takes, plan, planned. */
public final class EdgesOfArchesTest {
    private static final int MISSING = BazaarBook.MISSING;
    private static final int BEYOND = BazaarBook.BEYOND;
    private static final int NO = BazaarBook.NO;
    private static final int[] NO_ARCH = {-1, 6, 32, Edges.LEAST, Edges.MOST};

    private static final Edges e = new Edges();

    public static void main(String[] args) {
        repairCosts();
        repairAmongShops();
        repairAmongPersons();
        repairRefused();
        takesDays();
        planSets();
        planGangs();
        planStreets();
        planOrders();
        planRefused();
        plannedOnes();
        plannedRefused();
        e.end();
    }

    private static long purseAfter(BazaarBook x, int arch, int cost, int person) {
        x.repair(arch, cost);
        return x.purse(person);
    }

    private static void repairCosts() {
        e.on(Books::rich);
        e.answersEach("22: a COST (0 .. 99999): how many SHOPS bear it", 2, new int[] {0, 1, 99998, 99999},
                (x, cost) -> x.repair(1, cost));
        e.answers("22: one SHOP bears it", 1, x -> x.repair(0, 5));
        e.refusesEach("22: NO", NO, new int[] {-1, 100000, Edges.LEAST, Edges.MOST}, (x, cost) -> x.repair(1, cost));
        e.answers("22: COST 0 goes out of no PURSE", 77, x -> purseAfter(x, 1, 0, 1));
        e.on(x -> x.shop(59, 1, 1));
        e.answers("22: ARCHES 0 .. 5: the last one", 1, x -> x.repair(5, 3));
        e.answers("22: the greatest COST", -99999, x -> purseAfter(x, 5, 99999, 9));
        e.on(x -> {
            for (int s = 0; s < 14; s++) {
                x.shop(100 * (s % 5) + s % 10, 1, 1);
            }
        });
        e.answers("22: all SHOPS bear it", 14, x -> x.repair(0, 99999));
    }

    /** Shops 1, 2, 4 are under arch 3, with persons 7, 2, 4. */
    private static void threeShops(BazaarBook x) {
        x.shop(20, 1, 1);
        x.shop(37, 1, 1);
        x.shop(132, 1, 1);
        x.shop(141, 1, 1);
        x.shop(434, 1, 1);
    }

    private static void repairAmongShops() {
        e.on(EdgesOfArchesTest::threeShops);
        e.answers("22: an even COST, the first SHOP", -30, x -> purseAfter(x, 3, 90, 7));
        e.answers("22: an even COST, the last SHOP", -30, x -> purseAfter(x, 3, 90, 4));
        e.answers("22: cut, the first SHOP bears what is left, too", -32, x -> purseAfter(x, 3, 92, 7));
        e.answers("22: cut, the second SHOP", -30, x -> purseAfter(x, 3, 92, 2));
        e.answers("22: cut, the last SHOP", -30, x -> purseAfter(x, 3, 92, 4));
        e.answers("22: a COST less than how many there are, the first SHOP", -2, x -> purseAfter(x, 3, 2, 7));
        e.answers("22: a COST less than how many there are, the second SHOP", 0, x -> purseAfter(x, 3, 2, 2));
        e.answers("22: a SHOP under another ARCH bears nothing", 0, x -> purseAfter(x, 3, 92, 0));
        e.answers("22: a SHOP on the same STREET under another ARCH bears nothing", 0, x -> purseAfter(x, 3, 92, 1));
    }

    private static void repairAmongPersons() {
        e.on(x -> {
            x.shop(0, 1, 1);
            x.sale(100, 1, 5040);
        });
        int[] wall = {0, 0, 1, 2, 2, 3, 4};
        for (int i = 0; i < wall.length; i++) {
            int cost = i;
            e.answers("22: two thirds, cut, by the WALL, of " + cost, -wall[cost], x -> purseAfter(x, 0, cost, 0));
            e.answers("22: the rest by the SEAT, of " + cost, wall[cost] - cost, x -> purseAfter(x, 0, cost, 1));
        }
        e.answers("22: two thirds of the greatest COST", -66666, x -> purseAfter(x, 0, 99999, 0));
        e.answers("22: the rest of the greatest COST", -33333, x -> purseAfter(x, 0, 99999, 1));
        e.on(x -> {
            x.shop(6, 1, 1);
            x.sale(0, 63, 1);
            x.sale(100, 65, 1);
        });
        // 100 for the wall, by 1 and 5039 parts: 0 and 99, 1 left; 50 for the seat likewise: 0 and 49, 1 left
        e.answers("22: what is left of the WALL to the first of these", -1, x -> purseAfter(x, 0, 150, 3));
        e.answers("22: what is left of the SEAT to the first of these", -1, x -> purseAfter(x, 0, 150, 5));
        e.answers("22: cut, the one with the most", -99 - 49, x -> purseAfter(x, 0, 150, 6));
        e.answers("22: one without PARTS bears nothing", 0, x -> purseAfter(x, 0, 150, 0));
    }

    private static void repairRefused() {
        e.on(Books::empty);
        e.refuses("22: MISSING: there are no SHOPS at all", MISSING, x -> x.repair(0, 1));
        e.on(Books::rich);
        e.refusesEach("22: BEYOND", BEYOND, NO_ARCH, (x, arch) -> x.repair(arch, 1));
        e.refusesEach("22: MISSING: there are none", MISSING, new int[] {2, 3, 4, 5}, (x, arch) -> x.repair(arch, 1));
        e.refuses("22: MISSING at COST 0, too", MISSING, x -> x.repair(5, 0));
        e.refuses("22: BEYOND ahead of NO (too small)", BEYOND, x -> x.repair(-1, -1));
        e.refuses("22: BEYOND ahead of NO (too large)", BEYOND, x -> x.repair(6, 100000));
        e.refuses("22: NO (too small) ahead of MISSING", NO, x -> x.repair(5, -1));
        e.refuses("22: NO (too large) ahead of MISSING", NO, x -> x.repair(5, 100000));
    }

    private static void takesDays() {
        e.on(Books::rich);
        e.answers("23: what they were: told", 4, x -> x.takes(1, 9));
        e.answers("23: what they were: 1 at first", 1, x -> x.takes(0, 9));
        e.answers("23: what they were: the last ARCH", 1, x -> x.takes(5, 9));
        for (int days : new int[] {1, 9}) {
            e.answers("23: 1 .. 9, " + days, days, x -> {
                x.takes(5, days);
                return x.takes(5, 5);
            });
        }
        e.answers("23: those of another ARCH stay", 1, x -> {
            x.takes(4, 9);
            return x.takes(5, 9);
        });
        e.refusesEach("23: BEYOND", BEYOND, NO_ARCH, (x, arch) -> x.takes(arch, 1));
        e.refusesEach("23: NO", NO, new int[] {0, -1, 10, Edges.LEAST, Edges.MOST}, (x, days) -> x.takes(0, days));
        e.refuses("23: BEYOND ahead of NO (too small)", BEYOND, x -> x.takes(-1, 0));
        e.refuses("23: BEYOND ahead of NO (too large)", BEYOND, x -> x.takes(6, 10));
    }

    private static long plannedBy(BazaarBook x, int set, int i, boolean when) {
        x.plan(set);
        return x.planned(i, when);
    }

    private static void planSets() {
        e.on(Books::empty);
        for (int a = 0; a < 6; a++) {
            int arch = a;
            e.answers("24: a set of 1", 1, x -> x.plan(1 << arch));
            e.answers("24: a set of 1: its ARCH", arch, x -> plannedBy(x, 1 << arch, 0, false));
        }
        e.answers("24: a set of 6", 3, x -> x.plan(63));
        e.on(x -> {
            for (int a = 0; a < 6; a++) {
                x.takes(a, 9);
            }
        });
        e.answers("24: the most days of a set of 1", 9, x -> x.plan(32));
        e.answers("24: the most days of a set of 6 without SHOPS", 27, x -> x.plan(63));
        e.on(x -> {
            for (int a = 0; a < 6; a++) {
                x.takes(a, 9);
                x.shop(10 * a, 1, 1);
            }
        });
        e.answers("24: the most days of all: one STREET, one behind the other", 54, x -> x.plan(63));
        e.answers("24: the last one of these begins when the others have ended", 45, x -> plannedBy(x, 63, 5, true));
    }

    private static void planGangs() {
        e.on(x -> {
            x.takes(0, 3);
            x.takes(1, 2);
            x.takes(2, 2);
        });
        e.answers("24: two are under repair on one day", 3, x -> x.plan(3));
        e.answers("24: a third begins on the day on which one has ended", 2, x -> plannedBy(x, 7, 2, true));
        e.answers("24: DAYS: when the last one ends", 4, x -> x.plan(7));
        e.on(x -> x.takes(0, 9));
        // 0 until 9, 1 until 1, 2 until 2: the one that ends last is not the last of the order
        e.answers("24: DAYS: when the last one ends, which began first", 9, x -> x.plan(7));
        e.answers("24: two at most, from day 0 on", 0, x -> plannedBy(x, 7, 1, true));
        e.answers("24: two at most, the third one waits", 1, x -> plannedBy(x, 7, 2, true));
    }

    private static void planStreets() {
        e.on(x -> {
            x.shop(10, 1, 1);
            x.shop(20, 1, 1);
            x.shop(430, 1, 1);
        });
        e.answers("24: SHOPS on one STREET", 2, x -> x.plan(0b0110));
        e.answers("24: SHOPS on one STREET: begins when the other has ended", 1, x -> plannedBy(x, 0b0110, 1, true));
        e.answers("24: SHOPS on other STREETS", 1, x -> x.plan(0b1010));
        e.answers("24: an ARCH without SHOPS", 1, x -> x.plan(0b0011));
        e.answers("24: two ARCHES without SHOPS", 1, x -> x.plan(0b110000));
        e.answers("24: the last STREET, too", 2, x -> {
            x.shop(420, 1, 1);
            return x.plan(0b1100);
        });
    }

    private static void planOrders() {
        e.on(Books::empty);
        e.answers("24: the first by numbers, at its beginning", 0, x -> plannedBy(x, 63, 0, false));
        e.answers("24: the first by numbers, at its end", 5, x -> plannedBy(x, 63, 5, false));
        e.on(x -> {
            x.shop(0, 1, 1);
            x.shop(10, 1, 1);
            x.takes(2, 2);
        });
        // 0 1 2: 0 until 1, 1 from 1 until 2, 2 not ahead of 1: until 3; 0 2 1: until 2
        e.answers("24: the least DAYS ahead of the first by numbers", 2, x -> plannedBy(x, 7, 1, false));
        e.answers("24: not ahead of that on which the one before it begins", 2, x -> x.plan(7));
        e.answers("24: a day on which another one has just ended is free", 1, x -> plannedBy(x, 7, 2, true));
    }

    private static void planRefused() {
        e.on(Books::empty);
        e.refusesEach("24: BEYOND: bits", BEYOND, new int[] {64, 65, 127, 128, -1, -64, Edges.LEAST, Edges.MOST},
                (x, set) -> x.plan(set));
        e.refuses("24: NO: none", NO, x -> x.plan(0));
        e.on(Books::rich);
        e.refusesEach("24: BEYOND: bits, with a plan at hand", BEYOND, new int[] {64, -1}, (x, set) -> x.plan(set));
        e.refuses("24: NO: none, with a plan at hand", NO, x -> x.plan(0));
    }

    private static void plannedOnes() {
        e.on(Books::rich);
        e.answers("25: in its order (when false), from 0", 0, x -> x.planned(0, false));
        e.answers("25: in its order, the last one", 1, x -> x.planned(1, false));
        e.answers("25: the day on which it begins (when true)", 0, x -> x.planned(0, true));
        e.answers("25: the day on which the last one begins", 1, x -> x.planned(1, true));
        e.answers("25: the latest plan()", 5, x -> {
            x.plan(48);
            return x.planned(1, false);
        });
        e.answers("25: the latest plan(), though days changed since", 1, x -> {
            x.takes(0, 9);
            return x.planned(1, true);
        });
        e.answers("25: the latest plan(), though a SHOP came since", 0, x -> {
            x.plan(48);
            x.shop(40, 1, 1);
            x.shop(50, 1, 1);
            return x.planned(1, true);
        });
        e.answers("25: six of them", 5, x -> {
            x.plan(63);
            return x.planned(5, false);
        });
    }

    private static void plannedRefused() {
        e.on(Books::unplanned);
        e.refusesEach("25: MISSING: there was none", MISSING, new int[] {0, 5}, (x, i) -> x.planned(i, true));
        e.refusesEach("25: MISSING ahead of BEYOND", MISSING, new int[] {-1, 6, Edges.LEAST, Edges.MOST},
                (x, i) -> x.planned(i, false));
        e.on(Books::rich);
        int[] beyond = {-1, 2, 5, 6, Edges.LEAST, Edges.MOST};
        e.refusesEach("25: BEYOND", BEYOND, beyond, (x, i) -> x.planned(i, false));
        e.refusesEach("25: BEYOND, when", BEYOND, beyond, (x, i) -> x.planned(i, true));
        e.on(x -> {
            x.plan(63);
            x.plan(8);
        });
        e.refuses("25: BEYOND: a plan() of fewer than the one before it", BEYOND, x -> x.planned(1, false));
        e.on(x -> {
            Books.unplanned(x);
            x.plan(0);
            x.plan(64);
        });
        e.refuses("25: MISSING: all were refused", MISSING, x -> x.planned(0, false));
        e.on(x -> {
            x.plan(6);
            x.plan(0);
            x.plan(64);
        });
        e.answers("25: the latest plan() that wasn't refused", 2, x -> x.planned(1, false));
        e.refuses("25: BEYOND: behind the latest plan() that wasn't refused", BEYOND, x -> x.planned(2, false));
        e.on(x -> x.plan(63));
        e.refuses("25: BEYOND: behind six", BEYOND, x -> x.planned(6, true));
    }
}
