import java.util.List;
import java.util.function.Consumer;
import java.util.function.ToLongFunction;

/**
 * Boundary cases, each on a book of its own and told by the document's words,
 * so that the sentence that is broken is named.
 */
final class Edges {
    static final int LEAST = Integer.MIN_VALUE;
    static final int MOST = Integer.MAX_VALUE;
    static final int[] NO_PERSON = {-1, 10, LEAST, MOST};
    static final int[] NO_PAIR = {-1, -11, 100, LEAST, MOST};
    /** None of these is a shop of Books.rich(); 32 is 0 where a shift wraps around. */
    static final int[] NO_SHOP = {-1, 3, 14, 32, LEAST, MOST};
    static final int[] NO_KIND = {-1, 2, 3, LEAST, MOST};

    /** A call that is tried with each of several numbers. */
    interface CallWith {
        long on(BazaarBook book, int number);
    }

    private final Check check = new Check();
    private Consumer<BazaarBook> ready = Books::empty;

    /** The cases that follow begin with a new book that this has made ready. */
    void on(Consumer<BazaarBook> made) {
        ready = made;
    }

    private BazaarBook book() {
        BazaarBook book = new BazaarBook();
        ready.accept(book);
        return book;
    }

    /** The call is answered so, and none is counted as refused. */
    void answers(String words, long due, ToLongFunction<BazaarBook> call) {
        BazaarBook book = book();
        check.due(words, call.applyAsLong(book), due);
        sameStatus(words, book, book(), 0);
    }

    void answersEach(String words, long due, int[] numbers, CallWith call) {
        for (int number : numbers) {
            answers(words + " [" + number + "]", due, book -> call.on(book, number));
        }
    }

    /** The call is refused so: that is counted once, and all else is as without it. */
    void refuses(String words, int by, ToLongFunction<BazaarBook> call) {
        refusesAnswering(words, by, by, call);
    }

    void refusesEach(String words, int by, int[] numbers, CallWith call) {
        for (int number : numbers) {
            refuses(words + " [" + number + "]", by, book -> call.on(book, number));
        }
    }

    /** For purse(), which answers another number than the one that it is refused by. */
    void refusesAnswering(String words, int by, long due, ToLongFunction<BazaarBook> call) {
        BazaarBook asked = book();
        check.due(words, call.applyAsLong(asked), due);
        sameStatus(words, asked, book(), by);
        changesNothing(words, call);
    }

    /** The answer of rule() for a fault: nothing is counted, and all is as without it. */
    void faults(String words, int place, ToLongFunction<BazaarBook> call) {
        answers(words, -10 - place, call);
        changesNothing(words, call);
    }

    void end() {
        check.end();
    }

    private void sameStatus(String words, BazaarBook asked, BazaarBook twin, int oneMoreOf) {
        for (int by = BazaarBook.FULL; by <= BazaarBook.MISSING; by++) {
            long more = by == oneMoreOf ? 1 : 0;
            check.due(words + ": status(" + by + ")", asked.status(by), twin.status(by) + more);
        }
    }

    private void changesNothing(String words, ToLongFunction<BazaarBook> call) {
        for (int side = 0; side < Portrait.SIDES; side++) {
            BazaarBook asked = book();
            call.applyAsLong(asked);
            List<String> seen = Portrait.of(asked, side);
            List<String> due = Portrait.of(book(), side);
            check.isTrue(words + ": changed what is seen, " + firstChange(due, seen), seen.equals(due));
        }
    }

    private static String firstChange(List<String> due, List<String> seen) {
        for (int i = 0; i < due.size() && i < seen.size(); i++) {
            if (!seen.get(i).equals(due.get(i))) {
                return due.get(i) + " to " + seen.get(i);
            }
        }
        return due.size() + " answers to " + seen.size();
    }
}
