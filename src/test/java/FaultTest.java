import java.util.ArrayList;
import java.util.List;
import java.util.Random;
import java.util.regex.Pattern;

/**
 * Promise 18 against another reading of the grammar: a pattern for whole
 * rules, and endings of short rules that are put behind a beginning to see
 * whether any rule begins so.
 */
public final class FaultTest {
    private static final String TEST = "(not )?(street|shop|arch|person|good)[=<>][0-9]{1,4}";
    private static final Pattern RULE = Pattern.compile(
            "(ban|tax) [0-9]{1,4}( if " + TEST + "( and " + TEST + "){0,2})?");
    private static final String[] PIECES = {
        "ban", "tax", " ", " ", "if", "and", "not", "street", "shop", "arch", "person", "good",
        "=", "<", ">", "1", "23", "4567", "s", "st", "x", "0",
    };

    private static final Check c = new Check();
    private static final List<String> endings = endings();

    public static void main(String[] args) {
        Random random = new Random(18);
        for (int i = 0; i < 3000; i++) {
            compare(anyRule(random));
            compare(changed(anyRule(random), random));
            compare(changed(changed(anyRule(random), random), random));
            compare(anyPieces(random));
        }
        c.end();
    }

    private static void compare(String text) {
        String cut = text.length() > 80 ? text.substring(0, 80) : text;
        BazaarBook x = new BazaarBook();
        int due = RULE.matcher(cut).matches() ? 0 : -10 - faultOf(cut);
        c.due("rule of '" + cut + "'", Check.rule(x, cut, 0, 1), due);
    }

    private static int faultOf(String text) {
        for (int length = 1; length <= text.length(); length++) {
            if (!beginsRule(text.substring(0, length))) {
                return length - 1;
            }
        }
        return text.length();
    }

    private static boolean beginsRule(String beginning) {
        for (String ending : endings) {
            if (RULE.matcher(beginning + ending).matches()) {
                return true;
            }
        }
        return false;
    }

    private static List<String> endings() {
        List<String> found = new ArrayList<>();
        for (String head : new String[] {"ban 1", "tax 1"}) {
            for (String field : new String[] {"street", "shop", "arch", "person", "good"}) {
                for (String link : new String[] {" if ", " and "}) {
                    String whole = head + link + "not " + field + "=1";
                    for (int at = 0; at <= whole.length(); at++) {
                        found.add(whole.substring(at));
                    }
                    for (int at = 0; at <= head.length(); at++) {
                        found.add(head.substring(at));
                    }
                }
            }
        }
        return new ArrayList<>(new java.util.LinkedHashSet<>(found));
    }

    private static String anyRule(Random random) {
        StringBuilder text = new StringBuilder(random.nextBoolean() ? "ban " : "tax ");
        text.append(digits(random));
        int tests = random.nextInt(5);
        for (int t = 0; t < tests; t++) {
            text.append(t == 0 ? " if " : " and ");
            text.append(random.nextBoolean() ? "not " : "");
            text.append(PIECES[7 + random.nextInt(5)]);
            text.append(PIECES[12 + random.nextInt(3)]);
            text.append(digits(random));
        }
        return text.toString();
    }

    private static String digits(Random random) {
        StringBuilder text = new StringBuilder();
        int many = 1 + random.nextInt(random.nextInt(12) == 0 ? 5 : 4);
        for (int i = 0; i < many; i++) {
            text.append(random.nextInt(10));
        }
        return text.toString();
    }

    private static String changed(String text, Random random) {
        int at = random.nextInt(text.length() + 1);
        String head = text.substring(0, at);
        String tail = text.substring(at);
        switch (random.nextInt(4)) {
            case 0:
                return head;
            case 1:
                return head + anyByte(random) + tail;
            case 2:
                return head + (tail.isEmpty() ? "" : anyByte(random) + tail.substring(1));
            default:
                return head + (tail.isEmpty() ? "" : tail.substring(1));
        }
    }

    private static char anyByte(Random random) {
        String likely = " banitfxodsrehpgclw=<>0123456789";
        return random.nextInt(5) == 0
                ? (char) random.nextInt(256)
                : likely.charAt(random.nextInt(likely.length()));
    }

    private static String anyPieces(Random random) {
        StringBuilder text = new StringBuilder(random.nextBoolean() ? "ban 1 if " : "");
        int many = random.nextInt(8);
        for (int i = 0; i < many; i++) {
            text.append(PIECES[random.nextInt(PIECES.length)]);
        }
        return text.toString();
    }
}
