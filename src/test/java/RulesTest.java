/** Promises 16 to 20: feed, wipe, rule, may, why. */
public final class RulesTest {
    private static final Check c = new Check();

    public static void main(String[] args) {
        feedBytes();
        feedRefusals();
        wipeTape();
        goodRules();
        ruleRefusals();
        faults();
        faultLeavesNothing();
        mayByRight();
        mayByBan();
        mayByDay();
        everyFieldAndSign();
        notAndAnd();
        whyBan();
        whyTax();
        whyQuarrel();
        whyRefusals();
        c.end();
    }

    private static void feedBytes() {
        BazaarBook x = new BazaarBook();
        c.due(x.feed(0x62616e20, 4), 4);
        c.due(x.feed(0x7a7a7a37, 1), 5);
        c.due(x.feed(-1, 0), 5);
        c.due(x.count(3), 5);
        c.due(x.rule(0, 1), 0);
        c.due(x.feed(0x007461, 2), 2);
        c.due(x.feed(0x7f782035, 3), 5);
        c.due(x.rule(0, 1), 1);
        x.shop(0, 1, 1);
        c.due(x.may(0, 0, 7), 2);
        c.due(x.why(0, 0, 1), 5);
        // a byte above 127 is no sign of a rule, even if its low bits are
        c.due(x.feed(0xe2616e20, 4), 4);
        c.due(x.feed('1', 1), 5);
        c.due(x.rule(0, 1), -10);
    }

    private static void feedRefusals() {
        BazaarBook x = new BazaarBook();
        c.due(x.feed(1, -1), -4);
        c.due(x.feed(1, Integer.MIN_VALUE), -4);
        c.due(x.feed(1, 5), -7);
        c.due(x.feed(1, Integer.MAX_VALUE), -7);
        c.due(x.count(3), 0);
        for (int i = 1; i <= 19; i++) {
            c.due(x.feed(1, 4), 4 * i);
        }
        c.due(x.feed(1, 3), 79);
        c.due(x.feed(1, 2), -8);
        c.due(x.feed(1, 4), -8);
        c.due(x.count(3), 79);
        c.due(x.feed(1, 1), 80);
        c.due(x.feed(1, 1), -8);
        c.due(x.feed(1, 0), 80);
        c.due(x.feed(1, 5), -7);
        c.due(x.feed(1, -1), -4);
        c.due(x.wipe(), 80);
        c.due(x.status(-8), 3);
        c.due(x.status(-7), 3);
        c.due(x.status(-4), 3);
    }

    private static void wipeTape() {
        BazaarBook x = new BazaarBook();
        c.due(x.wipe(), 0);
        x.feed(7, 3);
        c.due(x.wipe(), 3);
        c.due(x.wipe(), 0);
        c.due(x.count(3), 0);
        Check.feed(x, "ban 1");
        c.due(x.rule(0, 1), 0);
        c.due(x.wipe(), 0);
    }

    private static void goodRules() {
        BazaarBook x = new BazaarBook();
        String[] texts = {
            "ban 0", "tax 9999", "ban 0001 if street=0", "tax 1 if not shop<0",
            "tax 12 if arch>9999 and not person=1", "ban 99 if good=1 and good=1 and good=1",
            "ban 1234 if not street=1234 and not street=1234 and not person=1234",
        };
        for (int i = 0; i < texts.length; i++) {
            c.due(Check.rule(x, texts[i], 0, 100000), i);
            c.due(x.count(3), 0);
            c.due(x.count(2), i + 1);
        }
    }

    private static void ruleRefusals() {
        BazaarBook x = new BazaarBook();
        Check.feed(x, "ban 5");
        c.due(x.rule(-1, 5), -7);
        c.due(x.rule(5, 5), -7);
        c.due(x.rule(6, 5), -7);
        c.due(x.rule(0, 100001), -7);
        c.due(x.rule(100000, 100001), -7);
        c.due(x.rule(Integer.MIN_VALUE, Integer.MAX_VALUE), -7);
        c.due(x.count(3), 5);
        c.due(x.rule(99999, 100000), 0);
        for (int r = 1; r < 10; r++) {
            c.due(Check.rule(x, "tax 1", 0, 9), r);
        }
        c.due(x.rule(0, 9), -8);
        c.due(x.rule(9, 0), -7);
        Check.feed(x, "ban 5");
        c.due(x.rule(0, 9), -8);
        c.due(x.count(3), 5);
        c.due(x.count(2), 10);
        c.due(x.status(-8), 2);
        c.due(x.status(-7), 7);
    }

    private static void faults() {
        fault("", 0);
        fault("x", 0);
        fault("Ban 1", 0);
        fault(" ban 1", 0);
        fault("tan 1", 2);
        fault("bax 1", 2);
        fault("ban", 3);
        fault("ban1", 3);
        fault("ban ", 4);
        fault("ban  1", 4);
        fault("ban x", 4);
        fault("ban -1", 4);
        fault("ban 1 ", 6);
        fault("ban 1x", 5);
        fault("ban 1  if", 6);
        fault("ban 12345", 8);
        fault("ban 1234x", 8);
        fault("ban 1 and good=1", 6);
        fault("ban 1 if", 8);
        fault("ban 1 if ", 9);
        fault("ban 1 if x", 9);
        fault("ban 1 if s", 10);
        fault("ban 1 if sx", 10);
        fault("ban 1 if stx", 11);
        fault("ban 1 if shx", 11);
        fault("ban 1 if n", 10);
        fault("ban 1 if nott", 12);
        fault("ban 1 if not ", 13);
        fault("ban 1 if not not good=1", 13);
        fault("ban 1 if person =1", 15);
        fault("ban 1 if person!1", 15);
        fault("ban 1 if person", 15);
        fault("ban 1 if person1", 15);
        fault("ban 1 if person=", 16);
        fault("ban 1 if person= 1", 16);
        fault("ban 1 if person=12345", 20);
        fault("ban 1 if good=1 ", 16);
        fault("ban 1 if good=1 if good=1", 16);
        fault("ban 1 if good=1 and", 19);
        fault("ban 1 if good=1 and ", 20);
        fault("ban 1 if good=1 and arch<1 and shop>1 ", 37);
        fault("ban 1 if good=1 and arch<1 and shop>1 and good=1", 37);
        fault("ban 1 if good=1 and arch<1 and shop>1x", 37);
        fault("ban 1 if good=1 and arch<1 and shop>12345", 40);
        fault("ban 1 if good=1\n", 15);
    }

    private static void fault(String text, int place) {
        BazaarBook x = new BazaarBook();
        c.due("rule of '" + text + "'", Check.rule(x, text, 0, 1), -10 - place);
        c.due("tape of '" + text + "'", x.count(3), text.length());
        c.due("rules after '" + text + "'", x.count(2), 0);
        for (int by = -8; by <= -2; by++) {
            c.due("status after '" + text + "'", x.status(by), 0);
        }
    }

    /** What was read of a faulty rule is no part of the next one. */
    private static void faultLeavesNothing() {
        BazaarBook x = new BazaarBook();
        x.shop(1, 1, 1);
        c.due(Check.rule(x, "ban 7 if not good=4 and not person=1 and", 0, 9), -50);
        c.due(Check.rule(x, "ban 4", 0, 9), 0);
        c.due(x.may(1, 0, 4), 2);
        c.due(Check.rule(x, "ban 7 if not good=4 x", 0, 9), -30);
        c.due(Check.rule(x, "tax 8 if good=4", 0, 9), 1);
        c.due(x.why(14, 0, 1), 8);
    }

    private static void mayByRight() {
        BazaarBook x = new BazaarBook();
        c.due(x.may(0, 0, 0), -3);
        x.shop(1, 1, 1);
        x.sale(0, 12, 9);
        c.due(x.may(1, 0, 0), 1);
        c.due(x.may(2, 0, 0), 0);
        x.sale(100, 12, 1);
        c.due(x.may(2, 0, 9), 1);
        x.let(0, 13, 0, 1);
        c.due(x.may(3, 0, 9), 1);
        c.due(x.may(4, 0, 9), 0);
        x.run(1);
        c.due(x.may(3, 0, 9), 0);
        c.due(x.may(-1, 0, 0), -3);
        c.due(x.may(10, 0, 0), -3);
        c.due(x.may(1, 1, 0), -3);
        c.due(x.may(1, -1, 0), -3);
        c.due(x.may(1, 0, 10), -3);
        c.due(x.may(1, 0, -1), -3);
        c.due(x.status(-3), 7);
    }

    private static void mayByBan() {
        BazaarBook x = new BazaarBook();
        x.shop(1, 1, 1);
        x.shop(111, 1, 1);
        Check.rule(x, "ban 4 if shop=0", 0, 100);
        Check.rule(x, "tax 5", 0, 100);
        c.due(x.may(1, 0, 4), 2);
        c.due(x.may(1, 0, 5), 1);
        c.due(x.may(1, 1, 4), 1);
        c.due(x.may(2, 0, 4), 0);
        Check.rule(x, "ban 0099 if street=1", 0, 100);
        c.due(x.may(1, 1, 0), 2);
        c.due(x.may(1, 1, 9), 2);
        c.due(x.may(1, 0, 9), 1);
    }

    private static void mayByDay() {
        BazaarBook x = new BazaarBook();
        x.shop(1, 1, 1);
        Check.rule(x, "ban 4", 2, 4);
        int[] due = {1, 1, 2, 2, 1};
        for (int d = 0; d < due.length; d++) {
            c.due(x.may(1, 0, 4), due[d]);
            x.run(1);
        }
    }

    private static void everyFieldAndSign() {
        String[] fields = {"street", "shop", "arch", "person", "good"};
        int[] facts = {4, 1, 5, 3, 2};
        for (int f = 0; f < fields.length; f++) {
            for (int by = -1; by <= 1; by++) {
                int bound = facts[f] + by;
                bans("ban 2 if " + fields[f] + "=" + bound, by == 0);
                bans("ban 2 if " + fields[f] + "<" + bound, by > 0);
                bans("ban 2 if " + fields[f] + ">" + bound, by < 0);
                bans("ban 2 if not " + fields[f] + "=" + bound, by != 0);
                bans("ban 2 if not " + fields[f] + "<" + bound, by <= 0);
                bans("ban 2 if not " + fields[f] + ">" + bound, by >= 0);
            }
        }
    }

    private static void notAndAnd() {
        bans("ban 2 if good=2 and person=3", true);
        bans("ban 2 if good=2 and person=4", false);
        bans("ban 2 if good=1 and person=3", false);
        bans("ban 2 if good=1 and person=4", false);
        bans("ban 2 if not good=1 and not person=4 and not arch<5", true);
        bans("ban 2 if good=2 and person=3 and arch=4", false);
        bans("ban 2 if good=2 and not person=3 and arch=5", false);
        bans("ban 3", false);
        bans("ban 99", true);
        bans("ban 9999", false);
        bans("ban 0002", true);
    }

    /** Whether a rule bans person 3 from good 2 in shop 1 on street 4 under arch 5. */
    private static void bans(String text, boolean due) {
        BazaarBook x = new BazaarBook();
        x.shop(0, 1, 1);
        x.shop(453, 1, 1);
        // a longer rule ahead must leave nothing behind in the one that is asked
        c.due(Check.rule(x, "ban 8 if good=8 and good=8 and good=8", 0, 9), 0);
        c.due("rule of '" + text + "'", Check.rule(x, text, 0, 9), 1);
        c.due("may with '" + text + "'", x.may(3, 1, 2), due ? 2 : 1);
        c.due("why with '" + text + "'", x.why(32, 1, 0), due ? 1 : -1);
    }

    private static void whyBan() {
        BazaarBook x = new BazaarBook();
        x.shop(1, 1, 1);
        c.due(x.why(14, 0, 0), -1);
        Check.rule(x, "tax 4", 0, 9);
        Check.rule(x, "ban 4 if person>1", 0, 9);
        Check.rule(x, "ban 99 if good>3", 0, 9);
        Check.rule(x, "ban 4", 0, 9);
        Check.rule(x, "ban 5", 1, 9);
        Check.rule(x, "ban 3", 0, 9);
        c.due(x.why(14, 0, 0), 2);
        c.due(x.why(24, 0, 0), 1);
        c.due(x.why(13, 0, 0), 5);
        c.due(x.why(12, 0, 0), -1);
        c.due(x.why(99, 0, 0), 2);
        x.run(9);
        c.due(x.why(14, 0, 0), -1);
    }

    private static void whyTax() {
        BazaarBook x = new BazaarBook();
        x.shop(1, 1, 1);
        c.due(x.why(14, 0, 1), 0);
        Check.rule(x, "tax 400", 0, 9);
        Check.rule(x, "ban 7", 0, 9);
        c.due(x.why(14, 0, 1), 400);
        Check.rule(x, "tax 30 if good=4", 0, 9);
        c.due(x.why(14, 0, 1), 30);
        c.due(x.why(15, 0, 1), 400);
        Check.rule(x, "tax 0 if person=1", 0, 3);
        c.due(x.why(14, 0, 1), 0);
        c.due(x.why(24, 0, 1), 30);
        x.run(3);
        c.due(x.why(14, 0, 1), 30);
    }

    private static void whyQuarrel() {
        BazaarBook x = new BazaarBook();
        x.shop(1, 1, 1);
        c.due(x.why(14, 0, 2), -1);
        Check.rule(x, "tax 0", 0, 9);
        Check.rule(x, "ban 4", 0, 9);
        c.due(x.why(14, 0, 2), -1);
        Check.rule(x, "tax 6 if good>4", 0, 9);
        c.due(x.why(14, 0, 2), -1);
        c.due(x.why(15, 0, 2), -1);
        Check.rule(x, "tax 7", 0, 9);
        Check.rule(x, "tax 8", 0, 9);
        Check.rule(x, "ban 4", 0, 9);
        Check.rule(x, "ban 99 if good=5", 0, 9);
        c.due(x.why(14, 0, 2), 13);
        c.due(x.why(15, 0, 2), 62);
        c.due(x.why(16, 0, 2), -1);
        x.run(9);
        c.due(x.why(14, 0, 2), -1);
        BazaarBook y = new BazaarBook();
        y.shop(1, 1, 1);
        Check.rule(y, "tax 5", 0, 9);
        Check.rule(y, "ban 4", 0, 9);
        c.due(y.why(14, 0, 2), 10);
    }

    private static void whyRefusals() {
        BazaarBook x = new BazaarBook();
        c.due(x.why(0, 0, 0), -3);
        x.shop(1, 1, 1);
        c.due(x.why(-1, 0, 0), -3);
        c.due(x.why(100, 0, 0), -3);
        c.due(x.why(0, 1, 0), -3);
        c.due(x.why(0, -1, 0), -3);
        c.due(x.why(0, 1, 3), -3);
        c.due(x.why(0, 0, 3), -7);
        c.due(x.why(0, 0, -1), -7);
        c.due(x.why(99, 0, 0), -1);
        c.due(x.status(-3), 6);
        c.due(x.status(-7), 2);
        c.due(x.status(-2), 0);
    }
}
