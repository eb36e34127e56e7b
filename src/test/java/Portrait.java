import java.util.ArrayList;
import java.util.List;

/**
 * What can be seen of a book, as rows of calls with their answers; of shops it
 * shows three at most, of rules what they say to ten pairs of person and good
 * in shop 0. Some of the calls are refused, or change the book (heirs and days to come are seen in no
 * other way), so each side of it wants a book of its own, which is of no
 * further use.
 */
final class Portrait {
    static final int SIDES = 8;

    private final BazaarBook book;
    private final List<String> seen = new ArrayList<>();

    private Portrait(BazaarBook book) {
        this.book = book;
    }

    static List<String> of(BazaarBook book, int side) {
        Portrait portrait = new Portrait(book);
        switch (side) {
            case 0 -> portrait.counts();
            case 1 -> portrait.shops();
            case 2 -> portrait.rules();
            case 3 -> portrait.heirs();
            case 4 -> portrait.days();
            case 5 -> portrait.planned();
            case 6 -> portrait.arches();
            default -> portrait.tapeAndRow();
        }
        return portrait.seen;
    }

    private void see(String call, long answer) {
        seen.add(call + " " + answer);
    }

    private void counts() {
        for (int what = 0; what <= 5; what++) {
            see("count " + what, book.count(what));
        }
        purses();
    }

    private void shops() {
        int shops = book.count(1);
        for (int s = 0; s < shops; s++) {
            // three shops are enough, and leave the book within its 512 calls
            if (s < 2 || s == shops - 1) {
                shop(s);
            }
        }
    }

    private void shop(int s) {
        for (int what = 0; what <= 8; what++) {
            see("look " + s + " " + what, book.look(s, what));
        }
        for (int p = 0; p < 10; p++) {
            see("wall " + s + " " + p, book.has(s, 0, p));
            see("seat " + s + " " + p, book.has(s, 1, p));
        }
        int pawns = book.look(s, 7);
        for (int i = 0; i < pawns; i++) {
            see("pawned to " + s + " " + i, book.pawned(s, i, 0));
            see("pawned for " + s + " " + i, book.pawned(s, i, 1));
        }
        see("burns " + s, book.burns(0, s, 0));
    }

    private void planned() {
        for (int i = 0; i < 6; i++) {
            see("planned " + i, book.planned(i, false));
            see("planned day " + i, book.planned(i, true));
        }
    }

    private void arches() {
        see("plan", book.plan(63));
        planned();
        for (int a = 0; a < 6; a++) {
            see("takes " + a, book.takes(a, 1));
        }
    }

    private void purses() {
        for (int p = 0; p < 10; p++) {
            see("purse " + p, book.purse(p));
        }
    }

    private void rules() {
        for (int p = 0; p < 10 && book.count(1) > 0; p++) {
            // person 0 asks of good 3, which a rule of Books.rich() bans
            int good = (p + 3) % 10;
            see("may " + p, book.may(p, 0, good));
            for (int what = 0; what <= 2; what++) {
                see("why " + p + " " + what, book.why(10 * p + good, 0, what));
            }
        }
    }

    private void tapeAndRow() {
        see("rule", book.rule(99999, 100000));
        see("wipe", book.wipe());
        for (int i = 0; i < 10; i++) {
            see("row " + i, book.row(i));
        }
        see("tear", book.tear());
    }

    /** Each one dies with the whole seat of shop 0, so that weights are seen as parts. */
    private void heirs() {
        for (int p = 0; p < 10 && book.count(1) > 0; p++) {
            see("sold", book.sold(0, p, 0));
            if (book.death(p) > 0) {
                for (int heir = 0; heir < 10; heir++) {
                    see("heir " + p + " " + heir, book.has(0, 1, heir));
                }
            }
            see("disown " + p, book.disown(p));
        }
    }

    private void days() {
        see("run 1", book.run(1));
        see("lets", book.count(4));
        see("run 100", book.run(100));
        see("day", book.count(0));
        purses();
    }
}
