/** Books that boundary cases begin with. */
final class Books {
    private Books() {
    }

    static void empty(BazaarBook x) {
        // as it was made
    }

    /**
     * Three shops with something of everything, on day 5. Shops 0 and 1 are on
     * street 0, shops 1 and 2 under arch 1.
     */
    static void rich(BazaarBook x) {
        unplanned(x);
        x.plan(3);
    }

    /** As rich(), but that there was no plan(). */
    static void unplanned(BazaarBook x) {
        x.shop(0, 500, 3);
        x.shop(11, 9999, 2);
        x.shop(112, 40, 1);
        x.sale(0, 3, 1000);
        x.sale(100, 4, 40);
        x.heir(0, 1, 2);
        x.heir(0, 2, 3);
        x.heir(5, 0, 9);
        x.run(5);
        x.let(0, 6, 9, 10);
        x.let(1, 17, 5, 999);
        x.pawn(0, 8, 100);
        x.pawn(0, 9, 300);
        x.pawn(2, 8, 40);
        x.sold(1, 1, 77);
        Check.rule(x, "ban 3 if person=0", 0, 100);
        Check.rule(x, "tax 7", 5, 6);
        x.takes(1, 4);
        x.lay(0, 1);
        Check.feed(x, "tax 5 if go");
    }

    /**
     * All counts at their limits: shops, pawns of shop 13, heirs of person 9,
     * rules, bytes; and something of what has no limit.
     */
    static void full(BazaarBook x) {
        for (int s = 0; s < 14; s++) {
            x.shop(100 * (s % 5) + 10 * (s % 6) + s % 10, 100 * (s + 1), 1 + s % 9);
        }
        for (int i = 0; i < 8; i++) {
            x.pawn(13, i, 10 + i);
        }
        x.pawn(0, 8, 30);
        x.pawn(0, 9, 40);
        for (int h = 0; h < 4; h++) {
            x.heir(9, 2 * h, 1 + h);
        }
        x.heir(0, 1, 2);
        x.heir(0, 2, 3);
        x.let(0, 6, 20, 5);
        x.takes(1, 4);
        x.plan(3);
        x.lay(0, 1);
        for (int r = 0; r < 10; r++) {
            Check.rule(x, (r % 2 == 0 ? "ban " : "tax ") + r, 0, 9);
        }
        for (int i = 0; i < 20; i++) {
            x.feed(0x62616e20, 4);
        }
    }
}
