/** Boundary cases of the texts of rules, in promise 18: which are rules, where their first fault is, when they hold. */
public final class EdgesOfRuleTextsTest {
    private static final String THREE_TESTS = "ban 1 if not good=1 and arch<22 and shop>333";

    private static final Edges e = new Edges();

    public static void main(String[] args) {
        ruleNumbers();
        ruleKeysAndBlanks();
        ruleTests();
        ruleEndsTooEarly();
        testsOfEachField();
        rulesWithoutTests();
        e.end();
    }

    private static void isRule(String words, String text) {
        e.on(Books::empty);
        e.answers("3: " + words + ": '" + text + "'", 0, x -> Check.rule(x, text, 0, 1));
    }

    private static void isFault(String words, String text, int place) {
        e.on(x -> Check.feed(x, text));
        e.faults("3: " + words + ": '" + text + "'", place, x -> x.rule(0, 1));
    }

    private static void ruleNumbers() {
        isRule("1 to 4 digits", "ban 0");
        isRule("1 to 4 digits", "ban 9");
        isRule("1 to 4 digits", "tax 0000");
        isRule("1 to 4 digits", "tax 9999");
        isFault("no digit", "ban ", 4);
        isFault("no digit", "ban x", 4);
        isFault("five digits", "ban 00000", 8);
        isFault("five digits", "tax 12345 if good=1", 8);
        isFault("the sign behind 9", "ban :", 4);
        isFault("the sign ahead of 0", "ban /", 4);
        isFault("a digit and the sign behind 9", "ban 1:", 5);
        isFault("a digit and the sign ahead of 0", "ban 1/", 5);
        isRule("1 to 4 digits of a TEST", "ban 1 if good=0");
        isRule("1 to 4 digits of a TEST", "ban 1 if good>9999");
        isFault("no digit of a TEST", "ban 1 if good=", 14);
        isFault("no digit of a TEST", "ban 1 if good= 1", 14);
        isFault("five digits of a TEST", "ban 1 if good=12345", 18);
        isFault("five digits of the last TEST", THREE_TESTS + "44", THREE_TESTS.length() + 1);
    }

    private static void ruleKeysAndBlanks() {
        isFault("KEY: ban tax", "Ban 1", 0);
        isFault("KEY: ban tax", "a", 0);
        isFault("KEY: ban tax", "c", 0);
        isFault("KEY: ban tax", "bax 1", 2);
        isFault("KEY: ban tax", "tan 1", 2);
        isFault("KEY: ban tax", "bans 1", 3);
        isFault("a blank ahead", " ban 1", 0);
        isFault("no blank behind the KEY", "ban1", 3);
        isFault("two blanks behind the KEY", "ban  1", 4);
        isFault("a blank at the end", "ban 1 ", 6);
        isFault("two blanks ahead of if", "ban 1  if good=1", 6);
        isFault("no blank ahead of if", "ban 1if good=1", 5);
        isFault("no blank behind if", "ban 1 ifgood=1", 8);
        isFault("two blanks behind if", "ban 1 if  good=1", 9);
        isFault("and without if", "ban 1 and good=1", 6);
        isFault("if for and", "ban 1 if good=1 if good=1", 16);
        isFault("a tab for a blank", "ban\t1", 3);
        isFault("a byte above 127", "ban 1" + (char) 160, 5);
        isFault("a byte of 255", "" + (char) 255, 0);
    }

    private static void ruleTests() {
        for (String field : new String[] {"street", "shop", "arch", "person", "good"}) {
            for (String sign : new String[] {"=", "<", ">"}) {
                isRule("FIELD, one of = < >, NUMBER", "ban 1 if " + field + sign + "1");
                isRule("perhaps not and a blank", "tax 1 if not " + field + sign + "1");
            }
            isFault("no sign", "ban 1 if " + field, 9 + field.length());
            isFault("another sign", "ban 1 if " + field + "!1", 9 + field.length());
            isFault("a digit for the sign", "ban 1 if " + field + "1", 9 + field.length());
            isFault("a blank ahead of the sign", "ban 1 if " + field + " =1", 9 + field.length());
            isFault("two signs", "ban 1 if " + field + "<=1", 10 + field.length());
        }
        isFault("no FIELD", "ban 1 if =1", 9);
        isFault("another FIELD", "ban 1 if day=1", 9);
        isFault("a FIELD that begins as two do", "ban 1 if sa=1", 10);
        isFault("a FIELD that begins as street does", "ban 1 if stop=1", 11);
        isFault("a FIELD that begins as shop does", "ban 1 if shops=1", 13);
        isFault("a FIELD that begins as good does", "ban 1 if goods=1", 13);
        isFault("not twice", "ban 1 if not not good=1", 13);
        isFault("not without a blank", "ban 1 if notgood=1", 12);
        isFault("not alone", "ban 1 if not", 12);
        isRule("3 TESTS at most: one", "ban 1 if good=1");
        isRule("3 TESTS at most: two", "ban 1 if good=1 and good=1");
        isRule("3 TESTS at most: three", THREE_TESTS);
        isFault("a fourth TEST", THREE_TESTS + " and good=1", THREE_TESTS.length());
        isFault("a blank behind the third TEST", THREE_TESTS + " ", THREE_TESTS.length());
        isFault("a sign behind the third TEST", THREE_TESTS + "x", THREE_TESTS.length());
    }

    /** Each beginning of a rule that is none itself has its fault at its end. */
    private static void ruleEndsTooEarly() {
        String text = "tax 12 if not street=34 and person<5 and not shop>678";
        for (int length = 0; length < text.length(); length++) {
            String beginning = text.substring(0, length);
            boolean whole = length == 5 || length == 6 || length == 22 || length == 23
                    || length == 36 || length == 51 || length == 52;
            if (whole) {
                isRule("a beginning that is a RULE", beginning);
            } else {
                isFault("the end of THE TAPE, if it ends too early", beginning, length);
            }
        }
        isRule("the whole of it", text);
    }

    /** Person 3 trades good 2 in shop 1 on street 4 under arch 5. */
    private static void testsOfEachField() {
        String[] fields = {"street", "shop", "arch", "person", "good"};
        int[] facts = {4, 1, 5, 3, 2};
        for (int f = 0; f < fields.length; f++) {
            for (int by = -1; by <= 1; by++) {
                int bound = facts[f] + by;
                holds(fields[f] + "=" + bound, by == 0);
                holds(fields[f] + "<" + bound, by > 0);
                holds(fields[f] + ">" + bound, by < 0);
            }
        }
    }

    private static void holds(String test, boolean due) {
        ruleHolds("3: TESTS are so", "ban 2 if " + test, due);
        ruleHolds("3: not: isn't", "ban 2 if not " + test, !due);
        ruleHolds("3: all TESTS, the first", "ban 2 if " + test + " and good=2 and good<3", due);
        ruleHolds("3: all TESTS, the second", "ban 2 if good=2 and " + test + " and good<3", due);
        ruleHolds("3: all TESTS, the third", "ban 2 if good=2 and good<3 and " + test, due);
    }

    private static void ruleHolds(String words, String text, boolean due) {
        e.on(x -> {
            x.shop(0, 1, 1);
            x.shop(453, 1, 1);
            Check.rule(x, text, 0, 1);
        });
        e.answers(words + ": '" + text + "'", due ? 2 : 1, x -> x.may(3, 1, 2));
    }

    private static void rulesWithoutTests() {
        ruleHolds("3: a RULE without TESTS HOLDS", "ban 2", true);
        e.on(x -> {
            x.shop(453, 1, 1);
            Check.rule(x, "ban 2 if street=1 and arch=1 and person=1 and", 0, 1);
            Check.rule(x, "ban 2", 0, 1);
        });
        e.answers("3: TESTS that were read up to a FAULT are no part of the next RULE", 2, x -> x.may(3, 0, 2));
    }
}
