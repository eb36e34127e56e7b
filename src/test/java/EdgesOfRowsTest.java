/** Boundary cases of the promises 30 to 34: lay, tear, row, copy, status. */
public final class EdgesOfRowsTest {
    private static final int MISSING = BazaarBook.MISSING;
    private static final int BEYOND = BazaarBook.BEYOND;
    private static final int BELOW = BazaarBook.BELOW;
    private static final int KIND = BazaarBook.KIND;
    private static final int COPY = BazaarBook.COPY;
    private static final int NO = BazaarBook.NO;
    private static final int FULL = BazaarBook.FULL;

    private static final Edges e = new Edges();

    public static void main(String[] args) {
        laid();
        layRefused();
        tornRow();
        rows();
        rowRefused();
        copied();
        copyRefused();
        statusOfEach();
        statusRefused();
        e.end();
    }

    /** The row is 10, 11, .. 18, and what is left of the parts at place 9: the seat of shop 3. */
    private static void counted(BazaarBook x) {
        Books.rich(x);
        x.shop(459, 1, 1);
        for (int p = 0; p < 9; p++) {
            x.sale(103, 90 + p, 10 + p);
        }
        x.lay(3, 1);
    }

    private static void torn(BazaarBook x) {
        Books.rich(x);
        x.tear();
    }

    private static final int LAST = 5040 - 9 * 14;

    private static void laid() {
        e.on(Books::rich);
        e.answers("30: 10, of the WALL", 10, x -> x.lay(0, 0));
        e.answers("30: 10, of the SEAT", 10, x -> x.lay(0, 1));
        e.answers("30: PARTS of KIND 0, the first PERSON", 4040, x -> {
            x.lay(0, 0);
            return x.row(0);
        });
        e.answers("30: PARTS of KIND 1, the first PERSON", 5000, x -> {
            x.lay(0, 1);
            return x.row(0);
        });
        e.answers("30: in the place of the one that was there", 0, x -> {
            x.lay(2, 1);
            return x.row(4);
        });
        e.answers("30: over another SHOP", 5040, x -> {
            x.lay(2, 1);
            return x.row(2);
        });
        e.answers("30: the numbers stay when PARTS go", 5000, x -> {
            x.sale(100, 9, 5000);
            return x.row(0);
        });
        e.on(EdgesOfRowsTest::counted);
        e.answers("30: the last PERSON", LAST, x -> x.row(9));
        e.on(Books::full);
        e.answers("30: the last SHOP", 10, x -> x.lay(13, 1));
    }

    private static void layRefused() {
        e.on(Books::empty);
        e.refuses("30: BEYOND: there are no SHOPS", BEYOND, x -> x.lay(0, 0));
        e.on(Books::rich);
        e.refusesEach("30: BEYOND", BEYOND, Edges.NO_SHOP, (x, shop) -> x.lay(shop, 0));
        e.refusesEach("30: KIND", KIND, Edges.NO_KIND, (x, kind) -> x.lay(2, kind));
        e.refusesEach("30: BEYOND ahead of KIND", BEYOND, Edges.NO_KIND, (x, kind) -> x.lay(3, kind));
        e.on(x -> x.shop(0, 1, 1));
        e.refuses("30: a refused call lays no ROW: BEYOND", BEYOND, x -> x.lay(1, 0));
        e.refuses("30: a refused call lays no ROW: KIND", KIND, x -> x.lay(0, 2));
        e.on(Books::full);
        e.refuses("30: BEYOND behind the last SHOP", BEYOND, x -> x.lay(14, 0));
    }

    private static void tornRow() {
        e.on(Books::empty);
        e.answers("31: else 0 (at first it is missing)", 0, x -> x.tear());
        e.on(Books::rich);
        e.answers("31: 1 if it was there", 1, x -> x.tear());
        e.answers("31: THE ROW is missing then", 0, x -> {
            x.tear();
            return x.tear();
        });
        e.answers("31: it is there again when it is laid", 1, x -> {
            x.tear();
            x.lay(0, 0);
            return x.tear();
        });
    }

    private static void rows() {
        e.on(EdgesOfRowsTest::counted);
        for (int p = 0; p < 9; p++) {
            int i = p;
            e.answers("32: number i of THE ROW, " + i, 10 + i, x -> x.row(i));
        }
        e.answers("32: number i of THE ROW, the last", LAST, x -> x.row(9));
    }

    private static void rowRefused() {
        e.on(Books::empty);
        e.refuses("32: MISSING: none was laid", MISSING, x -> x.row(0));
        e.on(EdgesOfRowsTest::torn);
        e.refusesEach("32: MISSING", MISSING, new int[] {0, 9}, (x, i) -> x.row(i));
        e.refusesEach("32: MISSING ahead of BEYOND", MISSING, new int[] {-1, 10, Edges.LEAST, Edges.MOST},
                (x, i) -> x.row(i));
        e.on(EdgesOfRowsTest::counted);
        e.refusesEach("32: BEYOND", BEYOND, new int[] {-1, 10, 11, Edges.LEAST, Edges.MOST}, (x, i) -> x.row(i));
    }

    private static long rowAfter(BazaarBook x, int i, int j, int n, int place) {
        x.copy(i, j, n);
        return x.row(place);
    }

    private static void copied() {
        e.on(EdgesOfRowsTest::counted);
        e.answersEach("33: n numbers: n, from 0 to 0", -1, new int[] {0, 1, 9, 10}, (x, n) -> x.copy(0, 0, n) - n - 1);
        e.answers("33: i + n of 10", 1, x -> x.copy(9, 0, 1));
        e.answers("33: j + n of 10", 1, x -> x.copy(0, 9, 1));
        e.answers("33: i + n and j + n of 10, none", 0, x -> x.copy(10, 10, 0));
        e.answers("33: none, from the end", 0, x -> x.copy(10, 0, 0));
        e.answers("33: none, to the end", 0, x -> x.copy(0, 10, 0));
        e.answers("33: none: nothing comes", 13, x -> rowAfter(x, 0, 3, 0, 3));
        e.answers("33: from the last place", LAST, x -> rowAfter(x, 9, 0, 1, 0));
        e.answers("33: to the last place", 10, x -> rowAfter(x, 0, 9, 1, 9));
        e.answers("33: the place behind it stays", 11, x -> rowAfter(x, 9, 0, 1, 1));
        e.answers("33: nine up by one, as they were: the first", 10, x -> rowAfter(x, 0, 1, 9, 1));
        e.answers("33: nine up by one, as they were: the second", 11, x -> rowAfter(x, 0, 1, 9, 2));
        e.answers("33: nine up by one, as they were: the last", 18, x -> rowAfter(x, 0, 1, 9, 9));
        e.answers("33: nine up by one: the place ahead of them stays", 10, x -> rowAfter(x, 0, 1, 9, 0));
        e.answers("33: nine down by one, as they were: the first", 11, x -> rowAfter(x, 1, 0, 9, 0));
        e.answers("33: nine down by one, as they were: the last", LAST, x -> rowAfter(x, 1, 0, 9, 8));
        e.answers("33: nine down by one: the place behind them stays", LAST, x -> rowAfter(x, 1, 0, 9, 9));
        e.answers("33: ten onto themselves", 14, x -> rowAfter(x, 0, 0, 10, 4));
        e.answers("33: PARTS stay as they are", 10, x -> {
            x.copy(9, 0, 1);
            return x.has(3, 1, 0);
        });
    }

    private static void copyRefused() {
        e.on(Books::empty);
        e.refuses("33: MISSING: none was laid", MISSING, x -> x.copy(0, 0, 1));
        e.on(EdgesOfRowsTest::torn);
        e.refuses("33: MISSING", MISSING, x -> x.copy(0, 0, 1));
        e.refuses("33: MISSING, none to copy", MISSING, x -> x.copy(0, 0, 0));
        e.refuses("33: MISSING ahead of BELOW", MISSING, x -> x.copy(0, 0, -1));
        e.refuses("33: MISSING ahead of COPY", MISSING, x -> x.copy(-1, 0, 1));
        e.on(EdgesOfRowsTest::counted);
        e.refusesEach("33: BELOW: n", BELOW, new int[] {-1, -10, Edges.LEAST}, (x, n) -> x.copy(0, 0, n));
        e.refuses("33: BELOW ahead of COPY (i below 0)", BELOW, x -> x.copy(-1, 0, -1));
        e.refuses("33: BELOW ahead of COPY (j below 0)", BELOW, x -> x.copy(0, -1, -1));
        e.refuses("33: BELOW ahead of COPY (i above)", BELOW, x -> x.copy(12, 0, -1));
        e.refuses("33: BELOW ahead of COPY (j above)", BELOW, x -> x.copy(0, 12, -1));
        e.refusesEach("33: COPY: i below 0", COPY, new int[] {-1, Edges.LEAST}, (x, i) -> x.copy(i, 0, 1));
        e.refusesEach("33: COPY: j below 0", COPY, new int[] {-1, Edges.LEAST}, (x, j) -> x.copy(0, j, 1));
        e.refuses("33: COPY: i below 0, none to copy", COPY, x -> x.copy(-1, 0, 0));
        e.refuses("33: COPY: j below 0, none to copy", COPY, x -> x.copy(0, -1, 0));
        e.refuses("33: COPY: i + n above 10, by i", COPY, x -> x.copy(10, 0, 1));
        e.refuses("33: COPY: j + n above 10, by j", COPY, x -> x.copy(0, 10, 1));
        e.refuses("33: COPY: i + n above 10, none to copy", COPY, x -> x.copy(11, 0, 0));
        e.refuses("33: COPY: j + n above 10, none to copy", COPY, x -> x.copy(0, 11, 0));
        e.refuses("33: COPY: i + n above 10, by n", COPY, x -> x.copy(1, 0, 10));
        e.refuses("33: COPY: j + n above 10, by n", COPY, x -> x.copy(0, 1, 10));
        e.refuses("33: COPY: n of 11", COPY, x -> x.copy(0, 0, 11));
        e.refuses("33: COPY: i + n wraps around, by i", COPY, x -> x.copy(Edges.MOST, 0, 1));
        e.refuses("33: COPY: j + n wraps around, by j", COPY, x -> x.copy(0, Edges.MOST, 1));
        e.refuses("33: COPY: i + n wraps around, by n", COPY, x -> x.copy(1, 0, Edges.MOST));
        e.refuses("33: COPY: j + n wraps around, by n", COPY, x -> x.copy(0, 1, Edges.MOST));
        e.refuses("33: COPY: i + n and j + n wrap around", COPY, x -> x.copy(Edges.MOST, Edges.MOST, Edges.MOST));
        e.refuses("33: COPY: i + n wraps around to a sum of 0", COPY, x -> x.copy(Edges.LEAST, 0, Edges.MOST));
    }

    /** Each refusal told once by a call of its own: one of its kind, none of the others. */
    private static void statusOfEach() {
        e.on(x -> x.row(0));
        onlyOneOf(MISSING);
        e.on(x -> x.look(0, 0));
        onlyOneOf(BEYOND);
        e.on(x -> x.purse(10));
        onlyOneOf(BEYOND);
        e.on(x -> x.run(-1));
        onlyOneOf(BELOW);
        e.on(x -> {
            x.shop(0, 1, 1);
            x.has(0, 2, 0);
        });
        onlyOneOf(KIND);
        e.on(x -> {
            x.shop(0, 1, 1);
            x.lay(0, 0);
            x.copy(0, 0, 11);
        });
        onlyOneOf(COPY);
        e.on(x -> x.count(6));
        onlyOneOf(NO);
        e.on(x -> {
            for (int s = 0; s < 15; s++) {
                x.shop(0, 1, 1);
            }
        });
        onlyOneOf(FULL);
        e.on(x -> x.rule(0, 1));
        onlyOneOf(0);
        e.on(x -> {
            x.shop(0, 1, 1);
            x.look(0, 4);
            x.first(0, 0);
            x.why(0, 0, 0);
        });
        onlyOneOf(0);
        e.on(x -> {
            for (int i = 0; i < 400; i++) {
                x.count(6);
            }
        });
        e.answers("34: how many calls: many of one kind", 400, x -> x.status(NO));
    }

    private static void onlyOneOf(int refusal) {
        for (int i = FULL; i <= MISSING; i++) {
            int by = i;
            e.answers("34: how many calls, after one by " + refusal + ", of " + by, by == refusal ? 1 : 0,
                    x -> x.status(by));
        }
    }

    private static void statusRefused() {
        e.on(Books::rich);
        e.refusesEach("34: NO: another number", NO, new int[] {-9, -1, 0, 1, 2, 8, -10, Edges.LEAST, Edges.MOST},
                (x, by) -> x.status(by));
        e.on(x -> x.status(-1));
        e.answers("34: a refused status() is counted, too", 1, x -> x.status(NO));
        e.on(x -> x.status(NO));
        e.answers("34: an answered status() is not counted", 0, x -> x.status(NO));
    }
}
