/** Promises 22 to 25: repair, takes, plan, planned. */
public final class ArchesTest {
    private static final Check c = new Check();

    public static void main(String[] args) {
        repairByShops();
        repairByParts();
        repairRefusals();
        takesDays();
        planTwoGangs();
        planSharedStreets();
        planFirstByNumbers();
        planNotAheadOfTheOneBefore();
        planRefusals();
        plannedRefusals();
        c.end();
    }

    private static void repairByShops() {
        BazaarBook x = new BazaarBook();
        x.shop(21, 1, 1);
        x.shop(32, 1, 1);
        x.shop(123, 1, 1);
        x.shop(324, 1, 1);
        c.due(x.repair(2, 101), 3);
        c.due(x.purse(1), -35);
        c.due(x.purse(2), 0);
        c.due(x.purse(3), -33);
        c.due(x.purse(4), -33);
        c.due(x.repair(2, 2), 3);
        c.due(x.purse(1), -37);
        c.due(x.purse(3), -33);
        c.due(x.repair(2, 0), 3);
        c.due(x.purse(1), -37);
        c.due(x.repair(3, 99999), 1);
        c.due(x.purse(2), -99999);
    }

    private static void repairByParts() {
        BazaarBook x = new BazaarBook();
        x.shop(24, 1, 1);
        x.sale(0, 41, 1260);
        x.sale(100, 45, 2520);
        x.sale(100, 40, 1);
        // of 100 the wall bears 66: 16 by 1 and 49 by 4, and 1 left by 1;
        // the seat 34: 0 by 0, 16 by 4, 17 by 5, and 1 left by 0
        c.due(x.repair(2, 100), 1);
        c.due(x.purse(0), -1);
        c.due(x.purse(1), -17);
        c.due(x.purse(4), -49 - 16);
        c.due(x.purse(5), -17);
        // of 1 the wall bears none
        c.due(x.repair(2, 1), 1);
        c.due(x.purse(0), -2);
        c.due(x.purse(1), -17);
    }

    private static void repairRefusals() {
        BazaarBook x = new BazaarBook();
        c.due(x.repair(-1, 1), -3);
        c.due(x.repair(6, 1), -3);
        c.due(x.repair(6, -1), -3);
        c.due(x.repair(0, -1), -7);
        c.due(x.repair(0, 100000), -7);
        c.due(x.repair(0, 1), -2);
        x.shop(10, 1, 1);
        c.due(x.repair(0, 1), -2);
        c.due(x.repair(0, -1), -7);
        c.due(x.repair(1, -1), -7);
        c.due(x.repair(1, 0), 1);
        c.due(x.purse(0), 0);
        c.due(x.status(-2), 2);
    }

    private static void takesDays() {
        BazaarBook x = new BazaarBook();
        c.due(x.takes(-1, 1), -3);
        c.due(x.takes(6, 0), -3);
        c.due(x.takes(0, 0), -7);
        c.due(x.takes(0, 10), -7);
        c.due(x.takes(0, -1), -7);
        c.due(x.takes(0, 9), 1);
        c.due(x.takes(0, 4), 9);
        c.due(x.takes(0, 4), 4);
        c.due(x.takes(5, 2), 1);
        c.due(x.plan(1), 4);
        c.due(x.plan(32), 2);
        c.due(x.takes(0, 10), -7);
        c.due(x.plan(1), 4);
    }

    private static void planTwoGangs() {
        BazaarBook x = new BazaarBook();
        c.due(x.plan(63), 3);
        planned(x, new int[] {0, 1, 2, 3, 4, 5}, new int[] {0, 0, 1, 1, 2, 2});
        x.takes(0, 1);
        x.takes(1, 2);
        x.takes(2, 3);
        // 0 1 2: 0 until 1, 1 until 2, 2 from 1 until 4; 2 is best begun first
        c.due(x.plan(7), 3);
        planned(x, new int[] {0, 2, 1}, new int[] {0, 0, 1});
        c.due(x.plan(4), 3);
        planned(x, new int[] {2}, new int[] {0});
        c.due(x.plan(6), 3);
        planned(x, new int[] {1, 2}, new int[] {0, 0});
    }

    private static void planSharedStreets() {
        BazaarBook x = new BazaarBook();
        x.shop(0, 1, 1);
        x.shop(10, 1, 1);
        x.shop(110, 1, 1);
        x.shop(120, 1, 1);
        x.takes(0, 2);
        x.takes(1, 3);
        x.takes(2, 2);
        // 0 and 1 share street 0, 1 and 2 share street 1, 0 and 2 share none
        c.due(x.plan(3), 5);
        planned(x, new int[] {0, 1}, new int[] {0, 2});
        c.due(x.plan(7), 5);
        planned(x, new int[] {0, 2, 1}, new int[] {0, 0, 2});
        c.due(x.plan(5), 2);
        // a shop that comes later changes the next plan, not the one that was made
        x.shop(20, 1, 1);
        planned(x, new int[] {0, 2}, new int[] {0, 0});
        c.due(x.plan(5), 4);
        planned(x, new int[] {0, 2}, new int[] {0, 2});
    }

    private static void planFirstByNumbers() {
        BazaarBook x = new BazaarBook();
        x.takes(3, 5);
        c.due(x.plan(0b101010), 5);
        planned(x, new int[] {1, 3, 5}, new int[] {0, 0, 1});
        x.takes(1, 2);
        x.takes(3, 2);
        x.takes(5, 2);
        c.due(x.plan(0b101010), 4);
        planned(x, new int[] {1, 3, 5}, new int[] {0, 0, 2});
    }

    private static void planNotAheadOfTheOneBefore() {
        BazaarBook x = new BazaarBook();
        x.shop(0, 1, 1);
        x.shop(10, 1, 1);
        x.takes(0, 3);
        x.takes(1, 3);
        x.takes(2, 3);
        // 0 1 2: 1 waits for 0 until 3, and 2 begins no sooner than 1
        c.due(x.plan(7), 6);
        planned(x, new int[] {0, 1, 2}, new int[] {0, 3, 3});
        x.takes(2, 4);
        c.due(x.plan(7), 6);
        planned(x, new int[] {0, 2, 1}, new int[] {0, 0, 3});
    }

    private static void planned(BazaarBook x, int[] order, int[] days) {
        for (int i = 0; i < order.length; i++) {
            c.due("planned " + i, x.planned(i, false), order[i]);
            c.due("planned day " + i, x.planned(i, true), days[i]);
        }
        c.due("planned behind the end", x.planned(order.length, false), -3);
    }

    private static void planRefusals() {
        BazaarBook x = new BazaarBook();
        c.due(x.plan(0), -7);
        c.due(x.plan(64), -3);
        c.due(x.plan(-1), -3);
        c.due(x.plan(Integer.MIN_VALUE), -3);
        c.due(x.planned(0, false), -2);
        c.due(x.plan(2), 1);
        c.due(x.plan(0), -7);
        c.due(x.plan(64), -3);
        c.due(x.planned(0, false), 1);
        c.due(x.status(-3), 4);
        c.due(x.status(-7), 2);
    }

    private static void plannedRefusals() {
        BazaarBook x = new BazaarBook();
        c.due(x.planned(-1, true), -2);
        c.due(x.planned(0, true), -2);
        x.plan(3);
        c.due(x.planned(-1, true), -3);
        c.due(x.planned(2, true), -3);
        c.due(x.planned(2, false), -3);
        c.due(x.planned(1, true), 0);
        c.due(x.status(-2), 2);
        c.due(x.status(-3), 3);
    }
}
