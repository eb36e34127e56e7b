/** Compares answers with those that are due, and tells the line of each that differs. */
final class Check {
    private int wrong = 0;
    private int seen = 0;

    void due(long got, long want) {
        seen++;
        if (got != want) {
            wrong++;
            System.out.println(caller() + ": answered " + got + ", due is " + want);
        }
    }

    /** For runs that are made up: the call is told by its text. */
    void due(String call, long got, long want) {
        seen++;
        if (got != want) {
            wrong++;
            System.out.println(call + ": answered " + got + ", due is " + want);
        }
    }

    void isTrue(String what, boolean holds) {
        due(what, holds ? 1 : 0, 1);
    }

    int wrong() {
        return wrong;
    }

    void end() {
        System.out.println(seen + " answers looked at, " + wrong + " not as due");
        if (wrong != 0) {
            System.exit(1);
        }
    }

    /** Puts a text on the tape, byte by byte. */
    static void feed(BazaarBook book, String text) {
        for (int i = 0; i < text.length(); i++) {
            book.feed(text.charAt(i), 1);
        }
    }

    /** The answer of rule() for a text on a tape that was empty. */
    static int rule(BazaarBook book, String text, int from, int to) {
        book.wipe();
        feed(book, text);
        return book.rule(from, to);
    }

    private static String caller() {
        return StackWalker.getInstance().walk(frames -> frames
                .filter(frame -> !frame.getClassName().equals("Check"))
                .findFirst()
                .map(frame -> frame.getFileName() + ":" + frame.getLineNumber())
                .orElse("?"));
    }
}
