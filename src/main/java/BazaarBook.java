import java.util.Arrays;

/**
 * The book of a covered market: its shops, the rights over them, its rules,
 * the repair of its arches and the ways of a fire.
 *
 * <p>Every public method looks at its arguments in the order in which the
 * document names the refusals, and changes nothing before the last of them.
 */
public final class BazaarBook {
    public static final int NONE = -1;
    public static final int MISSING = -2;
    public static final int BEYOND = -3;
    public static final int BELOW = -4;
    public static final int KIND = -5;
    public static final int COPY = -6;
    public static final int NO = -7;
    public static final int FULL = -8;

    private static final int PERSONS = 10;
    private static final int STREETS = 5;
    private static final int ARCHES = 6;
    private static final int GOODS = 10;
    private static final int SHOPS = 14;
    private static final int PARTS = 5040;
    private static final int WALL = 0;
    private static final int SEAT = 1;
    private static final int MOST_WORTH = 9999;
    private static final int MOST_HAZARD = 9;
    private static final int MOST_DEBT = 9999;
    private static final int MOST_PRICE = 99999;
    private static final int MOST_RENT = 999;
    private static final int MOST_WEIGHT = 9;
    private static final int MOST_REPAIR_DAYS = 9;
    private static final int MOST_RUN = 100;
    private static final int LAST_DAY = 100000;
    private static final int LAST_MINUTE = 999;
    private static final int MOST_OPENED = 2;
    private static final int PAWNS = 8;
    private static final int HEIRS = 4;
    private static final int RULES = 10;
    private static final int TESTS = 3;
    private static final int TAPE_BYTES = 80;
    private static final int FED_BYTES = 4;
    private static final int ANY_GOOD = 99;
    private static final int FAULT_BASE = -10;
    /** More than any order of arches takes, and than any fire and opening cost. */
    private static final int UNREACHED = 1000000;

    private static final int STREET_FIELD = 0;
    private static final int SHOP_FIELD = 1;
    private static final int ARCH_FIELD = 2;
    private static final int PERSON_FIELD = 3;
    private static final int GOOD_FIELD = 4;
    private static final int FIELDS = 5;

    private final Market market = new Market();
    private final Will[] wills = new Will[PERSONS];
    private final Purses purses = new Purses();
    private final Tape tape = new Tape();
    private final Rulebook rulebook = new Rulebook();
    private final Planner planner = new Planner();
    private final int[] numbers = new int[PERSONS];
    private final int[] refusals = new int[1 - FULL];
    private boolean numbersLaid = false;
    private int day = 0;

    public BazaarBook() {
        for (int p = 0; p < PERSONS; p++) {
            wills[p] = new Will();
        }
    }

    // ---- shops and rights

    public int shop(int told, int worth, int hazard) {
        int street = told / 100;
        int arch = told / 10 % 10;
        if (told < 0 || street >= STREETS || arch >= ARCHES) {
            return refused(BEYOND);
        }
        if (isOutside(worth, 1, MOST_WORTH) || isOutside(hazard, 1, MOST_HAZARD)) {
            return refused(NO);
        }
        if (market.count >= SHOPS) {
            return refused(FULL);
        }
        int number = market.count;
        Shop shop = market.shops[number];
        shop.found(street, arch, told % 10);
        shop.worth = worth;
        shop.hazard = hazard;
        market.join(number);
        planner.addStreet(arch, street);
        return number;
    }

    public int look(int shop, int what) {
        if (isNoShop(shop)) {
            return refused(BEYOND);
        }
        Shop seen = market.shops[shop];
        switch (what) {
            case 0:
                return seen.street;
            case 1:
                return seen.arch;
            case 2:
                return seen.worth;
            case 3:
                return seen.hazard;
            case 4:
                return seen.sitter;
            case 5:
                return seen.through;
            case 6:
                return seen.rent;
            case 7:
                return seen.pawnCount;
            case 8:
                return seen.allDebts();
            default:
                return refused(NO);
        }
    }

    public int has(int shop, int kind, int person) {
        if (isNoShop(shop) || isNoPerson(person)) {
            return refused(BEYOND);
        }
        if (isNoKind(kind)) {
            return refused(KIND);
        }
        return market.shops[shop].partsOf(kind)[person];
    }

    public int sale(int told, int persons, int parts) {
        int shop = told % 100;
        int kind = told / 100;
        if (told < 0 || isNoShop(shop) || isNoPair(persons)) {
            return refused(BEYOND);
        }
        if (isNoKind(kind)) {
            return refused(KIND);
        }
        int giver = persons / 10;
        int taker = persons % 10;
        if (isOutside(parts, 1, PARTS) || giver == taker) {
            return refused(NO);
        }
        int[] held = market.shops[shop].partsOf(kind);
        int going = Math.min(parts, held[giver]);
        held[giver] -= going;
        held[taker] += going;
        return going;
    }

    public int heir(int person, int heir, int weight) {
        if (isNoPerson(person) || isNoPerson(heir)) {
            return refused(BEYOND);
        }
        Will will = wills[person];
        if (isOutside(weight, 1, MOST_WEIGHT) || heir == person || will.names(heir)) {
            return refused(NO);
        }
        if (will.count >= HEIRS) {
            return refused(FULL);
        }
        will.add(heir, weight);
        return will.count;
    }

    public int disown(int person) {
        if (isNoPerson(person)) {
            return refused(BEYOND);
        }
        int had = wills[person].count;
        wills[person].count = 0;
        return had;
    }

    public int death(int person) {
        if (isNoPerson(person)) {
            return refused(BEYOND);
        }
        Will will = wills[person];
        if (will.count == 0) {
            return refused(MISSING);
        }
        int gone = 0;
        for (int s = 0; s < market.count; s++) {
            Shop shop = market.shops[s];
            gone += will.passOn(person, shop.wall);
            gone += will.passOn(person, shop.seat);
            shop.passDebts(person, will.heirs[0]);
            if (shop.sitter == person) {
                shop.endLet();
            }
        }
        return gone;
    }

    public int let(int shop, int persons, int through, int rent) {
        if (isNoShop(shop) || isNoPair(persons)) {
            return refused(BEYOND);
        }
        Shop place = market.shops[shop];
        if (isOutside(through, day, LAST_DAY) || isOutside(rent, 0, MOST_RENT)
                || place.isLet() || place.seat[persons / 10] == 0) {
            return refused(NO);
        }
        place.beginLet(persons % 10, through, rent);
        return 1;
    }

    public int pawn(int shop, int person, int debt) {
        if (isNoShop(shop) || isNoPerson(person)) {
            return refused(BEYOND);
        }
        Shop place = market.shops[shop];
        if (isOutside(debt, 1, MOST_DEBT) || place.allDebts() + debt > place.worth) {
            return refused(NO);
        }
        if (place.pawnCount >= PAWNS) {
            return refused(FULL);
        }
        place.addPawn(person, debt);
        return place.pawnCount;
    }

    public int pawned(int shop, int i, int what) {
        if (isNoPawn(shop, i)) {
            return refused(BEYOND);
        }
        if (isOutside(what, 0, 1)) {
            return refused(NO);
        }
        return what == 0 ? market.shops[shop].lenders[i] : market.shops[shop].debts[i];
    }

    public int pay(int shop, int i) {
        if (isNoPawn(shop, i)) {
            return refused(BEYOND);
        }
        int debt = market.shops[shop].debts[i];
        market.shops[shop].dropPawn(i);
        return debt;
    }

    public int sold(int shop, int person, int price) {
        if (isNoShop(shop) || isNoPerson(person)) {
            return refused(BEYOND);
        }
        if (isOutside(price, 0, MOST_PRICE)) {
            return refused(NO);
        }
        Shop place = market.shops[shop];
        int over = place.payDebts(price, purses);
        purses.part(over, place.seat, 1);
        giveAll(place.seat, person);
        return over;
    }

    public int first(int shop, int person) {
        if (isNoShop(shop) || isNoPerson(person)) {
            return refused(BEYOND);
        }
        Shop place = market.shops[shop];
        if (place.seat[person] == 0) {
            return refused(NO);
        }
        int mate = richestOther(place.seat, person);
        return mate == NONE ? richestOther(place.wall, person) : mate;
    }

    public long purse(int person) {
        if (isNoPerson(person)) {
            refused(BEYOND);
            return 0L;
        }
        return purses.held[person];
    }

    // ---- rules

    public int feed(int bytes, int n) {
        if (n < 0) {
            return refused(BELOW);
        }
        if (n > FED_BYTES) {
            return refused(NO);
        }
        if (tape.length + n > TAPE_BYTES) {
            return refused(FULL);
        }
        for (int left = n - 1; left >= 0; left--) {
            tape.add(bytes >>> (8 * left) & 255);
        }
        return tape.length;
    }

    public int wipe() {
        int had = tape.length;
        tape.length = 0;
        return had;
    }

    public int rule(int from, int to) {
        if (from < 0 || to > LAST_DAY || from >= to) {
            return refused(NO);
        }
        if (rulebook.count >= RULES) {
            return refused(FULL);
        }
        Rule next = rulebook.rules[rulebook.count];
        int fault = tape.faultOf(next);
        if (fault != NONE) {
            return FAULT_BASE - fault;
        }
        next.from = from;
        next.to = to;
        tape.length = 0;
        rulebook.count++;
        return rulebook.count - 1;
    }

    public int may(int person, int shop, int good) {
        if (isNoPerson(person) || isNoShop(shop) || isOutside(good, 0, GOODS - 1)) {
            return refused(BEYOND);
        }
        Shop place = market.shops[shop];
        if (place.seat[person] == 0 && place.sitter != person) {
            return 0;
        }
        state(person, shop, good);
        return rulebook.leastBan(day) == NONE ? 1 : 2;
    }

    public int why(int told, int shop, int what) {
        if (isNoPair(told) || isNoShop(shop)) {
            return refused(BEYOND);
        }
        if (isOutside(what, 0, 2)) {
            return refused(NO);
        }
        state(told / 10, shop, told % 10);
        if (what == 0) {
            return rulebook.leastBan(day);
        }
        return what == 1 ? rulebook.taxOn(day) : rulebook.quarrelOn(day);
    }

    public int run(int n) {
        if (n < 0) {
            return refused(BELOW);
        }
        if (isOutside(n, 1, MOST_RUN)) {
            return refused(NO);
        }
        int paid = 0;
        for (int s = 0; s < market.count; s++) {
            paid += rentsOf(market.shops[s], n);
        }
        day += n;
        return paid;
    }

    // ---- arches

    public int repair(int arch, int cost) {
        if (isOutside(arch, 0, ARCHES - 1)) {
            return refused(BEYOND);
        }
        if (isOutside(cost, 0, MOST_PRICE)) {
            return refused(NO);
        }
        int bearers = market.shopsUnder(arch);
        if (bearers == 0) {
            return refused(MISSING);
        }
        int each = cost / bearers;
        int left = cost - each * bearers;
        for (int s = 0; s < market.count; s++) {
            if (market.shops[s].arch == arch) {
                charge(market.shops[s], each + left);
                left = 0;
            }
        }
        return bearers;
    }

    public int takes(int arch, int days) {
        if (isOutside(arch, 0, ARCHES - 1)) {
            return refused(BEYOND);
        }
        if (isOutside(days, 1, MOST_REPAIR_DAYS)) {
            return refused(NO);
        }
        int were = planner.needs[arch];
        planner.needs[arch] = days;
        return were;
    }

    public int plan(int set) {
        if (isOutside(set, 0, (1 << ARCHES) - 1)) {
            return refused(BEYOND);
        }
        if (set == 0) {
            return refused(NO);
        }
        return planner.leastDays(set);
    }

    public int planned(int i, boolean when) {
        if (planner.size == 0) {
            return refused(MISSING);
        }
        if (isOutside(i, 0, planner.size - 1)) {
            return refused(BEYOND);
        }
        return when ? planner.bestBegins[i] : planner.bestOrder[i];
    }

    // ---- fire

    public int burns(int from, int shop, int opened) {
        if (isNoShop(from) || isNoShop(shop) || isNoShopSet(opened)) {
            return refused(BEYOND);
        }
        if (isIn(opened, from)) {
            return refused(NO);
        }
        market.spread(from, opened);
        return market.minutes[shop];
    }

    public int lost(int from, int minute, int opened) {
        if (isNoShop(from) || isNoShopSet(opened)) {
            return refused(BEYOND);
        }
        if (isIn(opened, from) || isOutside(minute, 0, LAST_MINUTE)) {
            return refused(NO);
        }
        return market.lossBy(from, minute, opened);
    }

    public int stop(int from, int minute, int k) {
        if (isNoShop(from)) {
            return refused(BEYOND);
        }
        if (isOutside(minute, 0, LAST_MINUTE) || isOutside(k, 0, MOST_OPENED)) {
            return refused(NO);
        }
        return market.cheapestSet(from, minute, k);
    }

    public int count(int what) {
        switch (what) {
            case 0:
                return day;
            case 1:
                return market.count;
            case 2:
                return rulebook.count;
            case 3:
                return tape.length;
            case 4:
                return market.allLets();
            case 5:
                return market.allPawns();
            default:
                return refused(NO);
        }
    }

    // ---- rows

    public int lay(int shop, int kind) {
        if (isNoShop(shop)) {
            return refused(BEYOND);
        }
        if (isNoKind(kind)) {
            return refused(KIND);
        }
        System.arraycopy(market.shops[shop].partsOf(kind), 0, numbers, 0, PERSONS);
        numbersLaid = true;
        return PERSONS;
    }

    public int tear() {
        int was = numbersLaid ? 1 : 0;
        numbersLaid = false;
        return was;
    }

    public int row(int i) {
        if (!numbersLaid) {
            return refused(MISSING);
        }
        if (isOutside(i, 0, PERSONS - 1)) {
            return refused(BEYOND);
        }
        return numbers[i];
    }

    public int copy(int i, int j, int n) {
        if (!numbersLaid) {
            return refused(MISSING);
        }
        if (n < 0) {
            return refused(BELOW);
        }
        // n is taken from the length, since i + n could wrap around
        if (isOutside(i, 0, PERSONS - n) || isOutside(j, 0, PERSONS - n)) {
            return refused(COPY);
        }
        System.arraycopy(numbers, i, numbers, j, n);
        return n;
    }

    public int status(int by) {
        if (isOutside(by, FULL, MISSING)) {
            return refused(NO);
        }
        return refusals[-by];
    }

    // ---- what the calls share

    private int refused(int by) {
        if (!isOutside(by, FULL, MISSING)) {
            refusals[-by]++;
        }
        return by;
    }

    private static boolean isOutside(int number, int least, int most) {
        return number < least || number > most;
    }

    private static boolean isIn(int set, int member) {
        return (set >> member & 1) == 1;
    }

    private static boolean isNoPerson(int person) {
        return isOutside(person, 0, PERSONS - 1);
    }

    /** Two digits told as one number, each of them a person or a good. */
    private static boolean isNoPair(int told) {
        return isOutside(told, 0, 99);
    }

    private static boolean isNoKind(int kind) {
        return kind != WALL && kind != SEAT;
    }

    private boolean isNoShop(int shop) {
        return isOutside(shop, 0, market.count - 1);
    }

    private boolean isNoShopSet(int set) {
        return isOutside(set, 0, (1 << market.count) - 1);
    }

    private boolean isNoPawn(int shop, int i) {
        return isNoShop(shop) || isOutside(i, 0, market.shops[shop].pawnCount - 1);
    }

    private static void giveAll(int[] parts, int person) {
        Arrays.fill(parts, 0);
        parts[person] = PARTS;
    }

    private static int richestOther(int[] parts, int person) {
        int richest = NONE;
        int most = 0;
        for (int p = 0; p < PERSONS; p++) {
            if (p != person && parts[p] > most) {
                richest = p;
                most = parts[p];
            }
        }
        return richest;
    }

    private void state(int person, int shop, int good) {
        rulebook.facts[STREET_FIELD] = market.shops[shop].street;
        rulebook.facts[SHOP_FIELD] = shop;
        rulebook.facts[ARCH_FIELD] = market.shops[shop].arch;
        rulebook.facts[PERSON_FIELD] = person;
        rulebook.facts[GOOD_FIELD] = good;
    }

    /**
     * No parts change hands while days go by, so that each day's rent is
     * parted alike and all of them can be paid at once.
     */
    private int rentsOf(Shop shop, int days) {
        if (!shop.isLet()) {
            return 0;
        }
        int lasting = shop.through - day + 1;
        int times = Math.min(days, lasting);
        purses.add(shop.sitter, -(long) shop.rent * times);
        purses.part(shop.rent, shop.seat, times);
        int paid = shop.rent * times;
        if (lasting <= days) {
            shop.endLet();
        }
        return paid;
    }

    private void charge(Shop shop, int cost) {
        int forWall = cost * 2 / 3;
        purses.part(forWall, shop.wall, -1);
        purses.part(cost - forWall, shop.seat, -1);
    }

    /** A shop with the rights over it. */
    private static final class Shop {
        private int street = 0;
        private int arch = 0;
        private int worth = 0;
        private int hazard = 0;
        private final int[] wall = new int[PERSONS];
        private final int[] seat = new int[PERSONS];
        private int sitter = NONE;
        private int through = NONE;
        private int rent = NONE;
        private final int[] lenders = new int[PAWNS];
        private final int[] debts = new int[PAWNS];
        private int pawnCount = 0;
        private int beside = 0;

        private void found(int onStreet, int underArch, int owner) {
            street = onStreet;
            arch = underArch;
            giveAll(wall, owner);
            giveAll(seat, owner);
        }

        private int[] partsOf(int kind) {
            return kind == WALL ? wall : seat;
        }

        private boolean isLet() {
            return sitter != NONE;
        }

        private void beginLet(int person, int lastDay, int dayRent) {
            sitter = person;
            through = lastDay;
            rent = dayRent;
        }

        private void endLet() {
            beginLet(NONE, NONE, NONE);
        }

        private int allDebts() {
            int all = 0;
            for (int i = 0; i < pawnCount; i++) {
                all += debts[i];
            }
            return all;
        }

        private void addPawn(int lender, int debt) {
            lenders[pawnCount] = lender;
            debts[pawnCount] = debt;
            pawnCount++;
        }

        private void dropPawn(int gone) {
            for (int i = gone + 1; i < pawnCount; i++) {
                lenders[i - 1] = lenders[i];
                debts[i - 1] = debts[i];
            }
            pawnCount--;
        }

        private void passDebts(int dead, int heir) {
            for (int i = 0; i < pawnCount; i++) {
                if (lenders[i] == dead) {
                    lenders[i] = heir;
                }
            }
        }

        /** Answers what of the price is over when the debts are paid. */
        private int payDebts(int price, Purses purses) {
            int left = price;
            int had = pawnCount;
            pawnCount = 0;
            for (int i = 0; i < had; i++) {
                int paid = Math.min(left, debts[i]);
                purses.add(lenders[i], paid);
                left -= paid;
                if (paid < debts[i]) {
                    addPawn(lenders[i], debts[i] - paid);
                }
            }
            return left;
        }
    }

    /** The heirs of a person, in the order in which they were told. */
    private static final class Will {
        private final int[] heirs = new int[HEIRS];
        private final int[] weights = new int[HEIRS];
        private int count = 0;

        private boolean names(int person) {
            for (int h = 0; h < count; h++) {
                if (heirs[h] == person) {
                    return true;
                }
            }
            return false;
        }

        private void add(int person, int weight) {
            heirs[count] = person;
            weights[count] = weight;
            count++;
        }

        private int allWeights() {
            int all = 0;
            for (int h = 0; h < count; h++) {
                all += weights[h];
            }
            return all;
        }

        /** Answers how many parts the dead one leaves. */
        private int passOn(int dead, int[] parts) {
            int all = allWeights();
            if (all == 0) {
                return 0;
            }
            int estate = parts[dead];
            int left = estate;
            for (int h = 0; h < count; h++) {
                int share = estate * weights[h] / all;
                parts[heirs[h]] += share;
                left -= share;
            }
            parts[heirs[0]] += left;
            // nobody is an heir of its own, so nothing came back to the dead one
            parts[dead] = 0;
            return estate;
        }
    }

    /** The purse of each person. */
    private static final class Purses {
        private final long[] held = new long[PERSONS];

        private void add(int person, long sum) {
            held[person] += sum;
        }

        /**
         * Parts a sum by the parts that persons have, so many times over
         * (-1: it goes out of the purses). What cutting leaves is for the
         * first of them. A sum is below 100000, so its product fits an int.
         */
        private void part(int sum, int[] parts, int times) {
            int left = sum;
            int firstOwner = NONE;
            for (int p = 0; p < PERSONS; p++) {
                if (parts[p] > 0) {
                    int share = sum * parts[p] / PARTS;
                    add(p, (long) share * times);
                    left -= share;
                    firstOwner = firstOwner == NONE ? p : firstOwner;
                }
            }
            if (firstOwner != NONE) {
                add(firstOwner, (long) left * times);
            }
        }
    }

    /** A rule, with its tests in rows. */
    private static final class Rule {
        private boolean bans = false;
        private int number = 0;
        private int from = 0;
        private int to = 0;
        private final int[] fields = new int[TESTS];
        private final int[] signs = new int[TESTS];
        private final int[] bounds = new int[TESTS];
        private final boolean[] denied = new boolean[TESTS];
        private int testCount = 0;

        private boolean holds(int day, int[] facts) {
            if (day < from || day >= to) {
                return false;
            }
            for (int t = 0; t < testCount; t++) {
                if (isSo(t, facts[fields[t]]) == denied[t]) {
                    return false;
                }
            }
            return true;
        }

        private boolean isSo(int test, int fact) {
            switch (signs[test]) {
                case '<':
                    return fact < bounds[test];
                case '>':
                    return fact > bounds[test];
                default:
                    return fact == bounds[test];
            }
        }
    }

    /** The rules as they came, and the facts that they are asked about. */
    private static final class Rulebook {
        private final Rule[] rules = new Rule[RULES];
        private final int[] facts = new int[FIELDS];
        private int count = 0;

        private Rulebook() {
            for (int r = 0; r < RULES; r++) {
                rules[r] = new Rule();
            }
        }

        private int leastBan(int day) {
            for (int r = 0; r < count; r++) {
                Rule rule = rules[r];
                boolean meant = rule.number == facts[GOOD_FIELD] || rule.number == ANY_GOOD;
                if (rule.bans && meant && rule.holds(day, facts)) {
                    return r;
                }
            }
            return NONE;
        }

        private int leastTaxing(int day) {
            for (int r = 0; r < count; r++) {
                Rule rule = rules[r];
                if (!rule.bans && rule.number != 0 && rule.holds(day, facts)) {
                    return r;
                }
            }
            return NONE;
        }

        private int taxOn(int day) {
            for (int r = count - 1; r >= 0; r--) {
                if (!rules[r].bans && rules[r].holds(day, facts)) {
                    return rules[r].number;
                }
            }
            return 0;
        }

        private int quarrelOn(int day) {
            int ban = leastBan(day);
            int tax = leastTaxing(day);
            return ban == NONE || tax == NONE ? NONE : 10 * ban + tax;
        }
    }

    /**
     * The bytes that a rule is read from. Each step of reading answers whether
     * the tape goes on as it wants; if not, the place stands on the fault.
     */
    private static final class Tape {
        private static final int DIGITS = 4;

        private final int[] bytes = new int[TAPE_BYTES];
        private int length = 0;
        private int place = 0;
        private int number = 0;

        private void add(int value) {
            if (length < TAPE_BYTES) {
                bytes[length] = value;
                length++;
            }
        }

        /** The byte so far ahead of the place, NONE behind the end. */
        private int ahead(int by) {
            int at = place + by;
            return at >= 0 && at < length ? bytes[at] : NONE;
        }

        /** The place of the first fault, NONE if the tape is a rule. */
        private int faultOf(Rule rule) {
            place = 0;
            return takeHead(rule) && takeTests(rule) ? NONE : place;
        }

        private boolean takeHead(Rule rule) {
            rule.bans = ahead(0) == 'b';
            boolean good = takeWord(rule.bans ? "ban " : "tax ") && takeNumber();
            rule.number = number;
            return good;
        }

        private boolean takeTests(Rule rule) {
            boolean good = true;
            rule.testCount = 0;
            for (int t = 0; t < TESTS && good && place < length; t++) {
                good = takeWord(t == 0 ? " if " : " and ") && takeTest(rule, t);
                rule.testCount = t + 1;
            }
            return good && place == length;
        }

        private boolean takeTest(Rule rule, int test) {
            rule.denied[test] = ahead(0) == 'n';
            if (rule.denied[test] && !takeWord("not ")) {
                return false;
            }
            rule.fields[test] = fieldAhead();
            if (!takeWord(wordOf(rule.fields[test]))) {
                return false;
            }
            rule.signs[test] = ahead(0);
            boolean good = takeSign() && takeNumber();
            rule.bounds[test] = number;
            return good;
        }

        /** The field that goes furthest with the bytes ahead. */
        private int fieldAhead() {
            switch (ahead(0)) {
                case 's':
                    return ahead(1) == 't' ? STREET_FIELD : SHOP_FIELD;
                case 'a':
                    return ARCH_FIELD;
                case 'p':
                    return PERSON_FIELD;
                default:
                    return GOOD_FIELD;
            }
        }

        private static String wordOf(int field) {
            switch (field) {
                case STREET_FIELD:
                    return "street";
                case SHOP_FIELD:
                    return "shop";
                case ARCH_FIELD:
                    return "arch";
                case PERSON_FIELD:
                    return "person";
                default:
                    return "good";
            }
        }

        private boolean takeWord(String word) {
            for (int i = 0; i < word.length(); i++) {
                if (ahead(0) != word.charAt(i)) {
                    return false;
                }
                place++;
            }
            return true;
        }

        private boolean takeSign() {
            int sign = ahead(0);
            if (sign != '=' && sign != '<' && sign != '>') {
                return false;
            }
            place++;
            return true;
        }

        /** A fifth digit is left for the next step, which wants none. */
        private boolean takeNumber() {
            number = 0;
            int taken = 0;
            for (; taken < DIGITS && isDigit(ahead(0)); taken++) {
                number = 10 * number + ahead(0) - '0';
                place++;
            }
            return taken > 0;
        }

        private static boolean isDigit(int value) {
            return value >= '0' && value <= '9';
        }
    }

    /** Two gangs that repair arches: tries all orders for the least days. */
    private static final class Planner {
        private static final int GANGS = 2;

        private final int[] needs = new int[ARCHES];
        private final int[] streets = new int[ARCHES];
        private final int[] order = new int[ARCHES];
        private final int[] begins = new int[ARCHES];
        private final int[] bestOrder = new int[ARCHES];
        private final int[] bestBegins = new int[ARCHES];
        private int size = 0;
        private int bestDays = 0;

        private Planner() {
            Arrays.fill(needs, 1);
        }

        private void addStreet(int arch, int street) {
            streets[arch] |= 1 << street;
        }

        private int leastDays(int set) {
            size = Integer.bitCount(set);
            bestDays = UNREACHED;
            tryOrders(0, set, 0);
            return bestDays;
        }

        /**
         * Goes through the orders by numbers, so that the first one of the
         * least days is kept; one that is no better already is given up.
         */
        private void tryOrders(int placed, int rest, int days) {
            if (days >= bestDays) {
                return;
            }
            if (rest == 0 || placed >= ARCHES) {
                keepOrder(days);
                return;
            }
            for (int arch = 0; arch < ARCHES; arch++) {
                if (isIn(rest, arch)) {
                    tryNext(arch, placed, rest & ~(1 << arch), days);
                }
            }
        }

        private void tryNext(int arch, int placed, int rest, int days) {
            int begin = firstDayFor(arch, placed, days);
            order[placed] = arch;
            begins[placed] = begin;
            tryOrders(placed + 1, rest, Math.max(days, begin + needs[arch]));
        }

        private void keepOrder(int days) {
            bestDays = days;
            System.arraycopy(order, 0, bestOrder, 0, ARCHES);
            System.arraycopy(begins, 0, bestBegins, 0, ARCHES);
        }

        /** On the day on which all placed ones have ended it can surely begin. */
        private int firstDayFor(int arch, int placed, int allEnd) {
            int earliest = placed == 0 ? 0 : begins[placed - 1];
            for (int day = earliest; day < allEnd; day++) {
                if (canBegin(arch, placed, day)) {
                    return day;
                }
            }
            return allEnd;
        }

        private boolean canBegin(int arch, int placed, int day) {
            int busy = 0;
            for (int i = 0; i < placed; i++) {
                int other = order[i];
                if (begins[i] + needs[other] > day) {
                    busy++;
                    if ((streets[other] & streets[arch]) != 0) {
                        return false;
                    }
                }
            }
            return busy < GANGS;
        }
    }

    /** The shops as they came, and the ways of a fire among them. */
    private static final class Market {
        private final Shop[] shops = new Shop[SHOPS];
        private final int[] minutes = new int[SHOPS];
        private int count = 0;
        private int cheapest = 0;
        private int leastCost = 0;

        private Market() {
            for (int s = 0; s < SHOPS; s++) {
                shops[s] = new Shop();
            }
        }

        /**
         * The shops that come later have greater numbers, so what a new one
         * is beside of the earlier ones is settled for good.
         */
        private void join(int shop) {
            int lastOnStreet = NONE;
            for (int s = 0; s < shop; s++) {
                if (shops[s].street == shops[shop].street) {
                    lastOnStreet = s;
                }
                if (shops[s].arch == shops[shop].arch) {
                    link(s, shop);
                }
            }
            if (lastOnStreet != NONE) {
                link(lastOnStreet, shop);
            }
            count = shop + 1;
        }

        private void link(int one, int other) {
            shops[one].beside |= 1 << other;
            shops[other].beside |= 1 << one;
        }

        private int shopsUnder(int arch) {
            int under = 0;
            for (int s = 0; s < count; s++) {
                if (shops[s].arch == arch) {
                    under++;
                }
            }
            return under;
        }

        private int allLets() {
            int lets = 0;
            for (int s = 0; s < count; s++) {
                if (shops[s].isLet()) {
                    lets++;
                }
            }
            return lets;
        }

        private int allPawns() {
            int pawns = 0;
            for (int s = 0; s < count; s++) {
                pawns += shops[s].pawnCount;
            }
            return pawns;
        }

        /** Leaves in minutes when each shop burns, NONE if it doesn't. */
        private void spread(int from, int opened) {
            Arrays.fill(minutes, NONE);
            minutes[from] = 0;
            int waiting = 1 << from;
            for (int step = 0; step < count; step++) {
                int next = soonest(waiting);
                if (next == NONE) {
                    return;
                }
                waiting = waiting & ~(1 << next) | catchFrom(next, opened);
            }
        }

        private int soonest(int waiting) {
            int soonest = NONE;
            for (int s = 0; s < count; s++) {
                if (isIn(waiting, s) && (soonest == NONE || minutes[s] < minutes[soonest])) {
                    soonest = s;
                }
            }
            return soonest;
        }

        /**
         * Shops are gone through by the minute at which they burn, so the one
         * that sets fire to another is the first that burns beside it.
         */
        private int catchFrom(int burning, int opened) {
            int caught = 0;
            for (int s = 0; s < count; s++) {
                if (isIn(shops[burning].beside & ~opened, s) && minutes[s] == NONE) {
                    minutes[s] = minutes[burning] + shops[s].hazard;
                    caught |= 1 << s;
                }
            }
            return caught;
        }

        private int lossBy(int from, int minute, int opened) {
            spread(from, opened);
            int loss = 0;
            for (int s = 0; s < count; s++) {
                if (minutes[s] != NONE && minutes[s] <= minute) {
                    loss += shops[s].worth;
                }
            }
            return loss;
        }

        private int worthOf(int set) {
            int worth = 0;
            for (int s = 0; s < count; s++) {
                if (isIn(set, s)) {
                    worth += shops[s].worth;
                }
            }
            return worth;
        }

        /**
         * Fewer shops come first, and of as many the lesser set, so that a
         * later set is taken only if it costs less.
         */
        private int cheapestSet(int from, int minute, int most) {
            leastCost = UNREACHED;
            weigh(0, from, minute);
            for (int high = 0; high < count && most >= 1; high++) {
                weigh(1 << high, from, minute);
            }
            for (int high = 1; high < count && most >= 2; high++) {
                for (int low = 0; low < high; low++) {
                    weigh(1 << high | 1 << low, from, minute);
                }
            }
            return cheapest;
        }

        private void weigh(int opened, int from, int minute) {
            if (isIn(opened, from)) {
                return;
            }
            int cost = lossBy(from, minute, opened) + worthOf(opened) / 2;
            if (cost < leastCost) {
                leastCost = cost;
                cheapest = opened;
            }
        }
    }
}
