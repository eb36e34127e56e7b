/** Promises 26 to 29: burns, lost, stop, count. */
public final class FireTest {
    private static final Check c = new Check();

    public static void main(String[] args) {
        burnsAlongTheStreet();
        burnsUnderTheArch();
        burnsByTheSoonestWay();
        openedStopsIt();
        burnsRefusals();
        lostByMinute();
        lostRefusals();
        stopTakesTheLeast();
        stopTies();
        stopRefusals();
        counts();
        c.end();
    }

    private static void burnsAlongTheStreet() {
        BazaarBook x = new BazaarBook();
        x.shop(0, 1, 5);
        x.shop(110, 1, 9);
        x.shop(20, 1, 2);
        x.shop(130, 1, 4);
        x.shop(40, 1, 3);
        c.due(x.burns(0, 0, 0), 0);
        c.due(x.burns(0, 2, 0), 2);
        c.due(x.burns(0, 4, 0), 5);
        c.due(x.burns(0, 1, 0), -1);
        c.due(x.burns(0, 3, 0), -1);
        c.due(x.burns(4, 0, 0), 7);
        c.due(x.burns(1, 3, 0), 4);
        c.due(x.burns(3, 1, 0), 9);
    }

    private static void burnsUnderTheArch() {
        BazaarBook x = new BazaarBook();
        x.shop(0, 1, 5);
        x.shop(100, 1, 9);
        x.shop(200, 1, 2);
        x.shop(350, 1, 2);
        for (int from = 0; from < 3; from++) {
            c.due(x.burns(from, 0, 0), from == 0 ? 0 : 5);
            c.due(x.burns(from, 1, 0), from == 1 ? 0 : 9);
            c.due(x.burns(from, 2, 0), from == 2 ? 0 : 2);
            c.due(x.burns(from, 3, 0), -1);
        }
    }

    private static void burnsByTheSoonestWay() {
        BazaarBook x = new BazaarBook();
        // 0 and 1 and 2 on street 0; 0, 3 under arch 0; 2, 4 under arch 2; 3, 4 on street 1
        x.shop(0, 1, 1);
        x.shop(10, 1, 9);
        x.shop(20, 1, 1);
        x.shop(100, 1, 2);
        x.shop(120, 1, 3);
        c.due(x.burns(0, 1, 0), 9);
        c.due(x.burns(0, 3, 0), 2);
        c.due(x.burns(0, 4, 0), 5);
        c.due(x.burns(0, 2, 0), 6);
        c.due(x.burns(2, 1, 0), 9);
        c.due(x.burns(2, 0, 0), 6);
    }

    private static void openedStopsIt() {
        BazaarBook x = new BazaarBook();
        x.shop(0, 1, 1);
        x.shop(10, 1, 1);
        x.shop(20, 1, 1);
        x.shop(110, 1, 1);
        c.due(x.burns(0, 1, 2), -1);
        c.due(x.burns(0, 2, 2), -1);
        c.due(x.burns(0, 3, 2), -1);
        c.due(x.burns(0, 2, 8), 2);
        c.due(x.burns(0, 3, 8), -1);
        c.due(x.burns(0, 3, 4), 2);
        c.due(x.burns(0, 0, 14), 0);
    }

    private static void burnsRefusals() {
        BazaarBook x = new BazaarBook();
        c.due(x.burns(0, 0, 0), -3);
        x.shop(0, 1, 1);
        x.shop(0, 1, 1);
        c.due(x.burns(2, 0, 0), -3);
        c.due(x.burns(-1, 0, 0), -3);
        c.due(x.burns(0, 2, 0), -3);
        c.due(x.burns(0, -1, 0), -3);
        c.due(x.burns(0, 0, -1), -3);
        c.due(x.burns(0, 0, 4), -3);
        c.due(x.burns(0, 0, 5), -3);
        c.due(x.burns(0, 0, Integer.MIN_VALUE), -3);
        c.due(x.burns(0, 2, 1), -3);
        c.due(x.burns(0, 1, 1), -7);
        c.due(x.burns(1, 1, 3), -7);
        c.due(x.burns(1, 0, 1), -1);
        for (int s = 2; s < 14; s++) {
            x.shop(0, 1, 1);
        }
        c.due(x.burns(0, 1, 1 << 13), 1);
        c.due(x.burns(0, 13, 0), 1);
        c.due(x.burns(0, 1, 1 << 14), -3);
    }

    private static void lostByMinute() {
        BazaarBook x = new BazaarBook();
        x.shop(0, 1000, 9);
        x.shop(10, 200, 3);
        x.shop(20, 30, 4);
        x.shop(130, 4, 1);
        c.due(x.lost(0, 0, 0), 1000);
        c.due(x.lost(0, 2, 0), 1000);
        c.due(x.lost(0, 3, 0), 1200);
        c.due(x.lost(0, 6, 0), 1200);
        c.due(x.lost(0, 7, 0), 1230);
        c.due(x.lost(0, 999, 0), 1230);
        c.due(x.lost(0, 999, 2), 1000);
        c.due(x.lost(0, 999, 4), 1200);
        c.due(x.lost(3, 999, 0), 4);
    }

    private static void lostRefusals() {
        BazaarBook x = new BazaarBook();
        c.due(x.lost(0, 0, 0), -3);
        x.shop(0, 1, 1);
        c.due(x.lost(1, 0, 0), -3);
        c.due(x.lost(-1, 0, 0), -3);
        c.due(x.lost(0, 0, 2), -3);
        c.due(x.lost(0, 0, -1), -3);
        c.due(x.lost(0, -1, 2), -3);
        c.due(x.lost(0, 0, 1), -7);
        c.due(x.lost(0, -1, 0), -7);
        c.due(x.lost(0, 1000, 0), -7);
        c.due(x.status(-3), 6);
        c.due(x.status(-7), 3);
    }

    private static void stopTakesTheLeast() {
        BazaarBook x = new BazaarBook();
        x.shop(0, 50, 1);
        x.shop(10, 1000, 2);
        x.shop(20, 100, 3);
        x.shop(30, 5000, 4);
        // none: 6150; 1: 50 + 500; 2: 1050 + 50; 3: 1150 + 2500
        c.due(x.stop(0, 999, 0), 0);
        c.due(x.stop(0, 999, 1), 2);
        c.due(x.stop(0, 999, 2), 2);
        c.due(x.stop(0, 1, 2), 0);
        c.due(x.stop(0, 2, 2), 2);
        // from 1: none 6150; 2: 1050 + 50; 0 and 2: 1000 + 75
        c.due(x.stop(1, 999, 1), 4);
        c.due(x.stop(1, 999, 2), 5);
        c.due(x.stop(1, 0, 2), 0);
    }

    private static void stopTies() {
        BazaarBook x = new BazaarBook();
        x.shop(0, 5, 1);
        x.shop(1, 1, 1);
        // half of 1, cut, is none, so opening it saves it
        c.due(x.stop(0, 999, 1), 2);
        c.due(x.stop(1, 999, 1), 1);
        c.due(x.stop(0, 0, 2), 0);
        BazaarBook y = new BazaarBook();
        y.shop(0, 5, 1);
        y.shop(100, 10, 1);
        y.shop(200, 10, 1);
        y.shop(300, 10, 1);
        // any one of them saves as much, any two more
        c.due(y.stop(0, 999, 1), 2);
        c.due(y.stop(0, 999, 2), 6);
        c.due(y.stop(3, 999, 2), 6);
        c.due(y.stop(1, 999, 2), 12);
        BazaarBook z = new BazaarBook();
        z.shop(0, 5, 1);
        z.shop(100, 1, 1);
        z.shop(200, 1, 1);
        // one opened costs 5 + 1 + 0, both 5 + 1 (cut together): the fewest are taken
        c.due(z.stop(0, 999, 2), 2);
        BazaarBook w = new BazaarBook();
        w.shop(0, 5, 1);
        w.shop(10, 20, 1);
        w.shop(20, 10, 1);
        // opened 1: 5 + 10; opened 2: 25 + 5; none: 35
        c.due(w.stop(0, 999, 2), 2);
        // one and the same loss with 1 and 2 opened would be 5 + 15
        c.due(w.stop(0, 1, 2), 2);
        BazaarBook v = new BazaarBook();
        v.shop(10, 8, 1);
        v.shop(20, 8, 1);
        v.shop(30, 16, 1);
        v.shop(40, 4, 1);
        // from 2: opened 1 costs 16 + 4 + 4, opened 3 costs 16 + 16 + 2, both 16 + 6
        c.due(v.stop(2, 999, 2), 10);
        c.due(v.stop(2, 999, 1), 2);
    }

    private static void stopRefusals() {
        BazaarBook x = new BazaarBook();
        c.due(x.stop(0, 0, 0), -3);
        x.shop(0, 1, 1);
        c.due(x.stop(1, 0, 0), -3);
        c.due(x.stop(-1, 0, 0), -3);
        c.due(x.stop(1, -1, 3), -3);
        c.due(x.stop(0, -1, 0), -7);
        c.due(x.stop(0, 1000, 0), -7);
        c.due(x.stop(0, 0, -1), -7);
        c.due(x.stop(0, 0, 3), -7);
        c.due(x.stop(0, 0, 2), 0);
    }

    private static void counts() {
        BazaarBook x = new BazaarBook();
        x.shop(1, 100, 1);
        x.shop(1, 100, 1);
        x.shop(1, 100, 1);
        x.let(0, 12, 5, 1);
        x.let(2, 12, 9, 1);
        x.pawn(1, 2, 5);
        x.pawn(2, 2, 5);
        x.pawn(2, 2, 5);
        Check.rule(x, "ban 1", 0, 1);
        Check.feed(x, "1234567");
        x.run(2);
        int[] due = {2, 3, 1, 7, 2, 3};
        for (int what = 0; what < due.length; what++) {
            c.due(x.count(what), due[what]);
        }
        x.run(4);
        c.due(x.count(4), 1);
        c.due(x.count(6), -7);
        c.due(x.count(-1), -7);
        c.due(x.status(-7), 2);
    }
}
