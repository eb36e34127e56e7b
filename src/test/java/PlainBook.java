import java.util.ArrayList;
import java.util.Arrays;
import java.util.List;
import java.util.TreeMap;
import java.util.regex.Matcher;
import java.util.regex.Pattern;

/**
 * The document told once more, slowly: days go by one at a time, fires burn
 * minute by minute, all orders and all sets are tried. ModelTest holds the
 * program against it.
 */
final class PlainBook {
    private static final String TEST = "(not )?(street|shop|arch|person|good)([=<>])([0-9]{1,4})";
    private static final Pattern ONE_TEST = Pattern.compile(TEST);
    private static final Pattern RULE = Pattern.compile(
            "(ban|tax) ([0-9]{1,4})( if " + TEST + "( and " + TEST + "){0,2})?");

    private static final class Place {
        int street;
        int arch;
        int worth;
        int hazard;
        final int[][] parts = new int[2][10];
        int[] let = null;
        final List<int[]> pawns = new ArrayList<>();

        int debts() {
            return pawns.stream().mapToInt(pawn -> pawn[1]).sum();
        }
    }

    private static final class Order {
        boolean bans;
        int number;
        String text;
        int from;
        int to;
    }

    private final List<Place> places = new ArrayList<>();
    private final List<List<int[]>> heirs = new ArrayList<>();
    private final long[] purses = new long[10];
    private final StringBuilder tape = new StringBuilder();
    private final List<Order> orders = new ArrayList<>();
    private final int[] days = {1, 1, 1, 1, 1, 1};
    private final TreeMap<Integer, Integer> refusals = new TreeMap<>();
    private List<Integer> planOrder = null;
    private List<Integer> planDays = null;
    private int[] numbers = null;
    private int day = 0;

    PlainBook() {
        for (int p = 0; p < 10; p++) {
            heirs.add(new ArrayList<>());
        }
    }

    private int no(int by) {
        refusals.merge(by, 1, Integer::sum);
        return by;
    }

    private boolean isShop(int s) {
        return s >= 0 && s < places.size();
    }

    private static boolean isPerson(int p) {
        return p >= 0 && p < 10;
    }

    int shop(int told, int worth, int hazard) {
        if (told < 0 || told > 459 || told % 100 > 59) {
            return no(-3);
        }
        if (worth < 1 || worth > 9999 || hazard < 1 || hazard > 9) {
            return no(-7);
        }
        if (places.size() == 14) {
            return no(-8);
        }
        Place place = new Place();
        place.street = told / 100;
        place.arch = told % 100 / 10;
        place.worth = worth;
        place.hazard = hazard;
        place.parts[0][told % 10] = 5040;
        place.parts[1][told % 10] = 5040;
        places.add(place);
        return places.size() - 1;
    }

    int look(int shop, int what) {
        if (!isShop(shop)) {
            return no(-3);
        }
        if (what < 0 || what > 8) {
            return no(-7);
        }
        Place p = places.get(shop);
        int[] let = p.let == null ? new int[] {-1, -1, -1} : p.let;
        int[] all = {p.street, p.arch, p.worth, p.hazard, let[0], let[1], let[2], p.pawns.size(), p.debts()};
        return all[what];
    }

    int has(int shop, int kind, int person) {
        if (!isShop(shop) || !isPerson(person)) {
            return no(-3);
        }
        if (kind < 0 || kind > 1) {
            return no(-5);
        }
        return places.get(shop).parts[kind][person];
    }

    int sale(int told, int persons, int parts) {
        if (told < 0 || persons < 0 || persons > 99 || !isShop(told % 100)) {
            return no(-3);
        }
        if (told / 100 > 1) {
            return no(-5);
        }
        if (parts < 1 || parts > 5040 || persons % 11 == 0) {
            return no(-7);
        }
        int[] owned = places.get(told % 100).parts[told / 100];
        int gone = 0;
        while (gone < parts && owned[persons / 10] > 0) {
            owned[persons / 10]--;
            owned[persons % 10]++;
            gone++;
        }
        return gone;
    }

    int heir(int person, int heir, int weight) {
        if (!isPerson(person) || !isPerson(heir)) {
            return no(-3);
        }
        List<int[]> mine = heirs.get(person);
        if (weight < 1 || weight > 9 || person == heir || mine.stream().anyMatch(h -> h[0] == heir)) {
            return no(-7);
        }
        if (mine.size() == 4) {
            return no(-8);
        }
        mine.add(new int[] {heir, weight});
        return mine.size();
    }

    int disown(int person) {
        if (!isPerson(person)) {
            return no(-3);
        }
        int had = heirs.get(person).size();
        heirs.get(person).clear();
        return had;
    }

    int death(int person) {
        if (!isPerson(person)) {
            return no(-3);
        }
        List<int[]> mine = heirs.get(person);
        if (mine.isEmpty()) {
            return no(-2);
        }
        int weights = mine.stream().mapToInt(h -> h[1]).sum();
        int gone = 0;
        for (Place place : places) {
            for (int[] owned : place.parts) {
                int estate = owned[person];
                for (int[] h : mine) {
                    int share = estate * h[1] / weights;
                    owned[h[0]] += share;
                    owned[person] -= share;
                }
                owned[mine.get(0)[0]] += owned[person];
                owned[person] = 0;
                gone += estate;
            }
            if (place.let != null && place.let[0] == person) {
                place.let = null;
            }
            for (int[] pawn : place.pawns) {
                pawn[0] = pawn[0] == person ? mine.get(0)[0] : pawn[0];
            }
        }
        return gone;
    }

    int let(int shop, int persons, int through, int rent) {
        if (!isShop(shop) || persons < 0 || persons > 99) {
            return no(-3);
        }
        Place place = places.get(shop);
        if (through < day || through > 100000 || rent < 0 || rent > 999 || place.let != null
                || place.parts[1][persons / 10] == 0) {
            return no(-7);
        }
        place.let = new int[] {persons % 10, through, rent};
        return 1;
    }

    int pawn(int shop, int person, int debt) {
        if (!isShop(shop) || !isPerson(person)) {
            return no(-3);
        }
        Place place = places.get(shop);
        if (debt < 1 || debt > 9999 || place.debts() + debt > place.worth) {
            return no(-7);
        }
        if (place.pawns.size() == 8) {
            return no(-8);
        }
        place.pawns.add(new int[] {person, debt});
        return place.pawns.size();
    }

    int pawned(int shop, int i, int what) {
        if (!isShop(shop) || i < 0 || i >= places.get(shop).pawns.size()) {
            return no(-3);
        }
        if (what != 0 && what != 1) {
            return no(-7);
        }
        return places.get(shop).pawns.get(i)[what];
    }

    int pay(int shop, int i) {
        if (!isShop(shop) || i < 0 || i >= places.get(shop).pawns.size()) {
            return no(-3);
        }
        return places.get(shop).pawns.remove(i)[1];
    }

    int sold(int shop, int person, int price) {
        if (!isShop(shop) || !isPerson(person)) {
            return no(-3);
        }
        if (price < 0 || price > 99999) {
            return no(-7);
        }
        Place place = places.get(shop);
        int left = price;
        for (int[] pawn : place.pawns) {
            int paid = Math.min(left, pawn[1]);
            left -= paid;
            pawn[1] -= paid;
            purses[pawn[0]] += paid;
        }
        place.pawns.removeIf(pawn -> pawn[1] == 0);
        parted(left, place.parts[1], 1);
        place.parts[1] = new int[10];
        place.parts[1][person] = 5040;
        return left;
    }

    private void parted(int sum, int[] owned, int sign) {
        long cut = 0;
        for (int p = 0; p < 10; p++) {
            cut += (long) sum * owned[p] / 5040;
        }
        long rest = sum - cut;
        for (int p = 0; p < 10; p++) {
            if (owned[p] > 0) {
                purses[p] += sign * ((long) sum * owned[p] / 5040 + rest);
                rest = 0;
            }
        }
    }

    int first(int shop, int person) {
        if (!isShop(shop) || !isPerson(person)) {
            return no(-3);
        }
        Place place = places.get(shop);
        if (place.parts[1][person] == 0) {
            return no(-7);
        }
        for (int kind = 1; kind >= 0; kind--) {
            for (int most = 5040; most > 0; most--) {
                for (int p = 0; p < 10; p++) {
                    if (p != person && place.parts[kind][p] == most) {
                        return p;
                    }
                }
            }
        }
        return -1;
    }

    long purse(int person) {
        if (!isPerson(person)) {
            no(-3);
            return 0;
        }
        return purses[person];
    }

    int feed(int bytes, int n) {
        if (n < 0) {
            return no(-4);
        }
        if (n > 4) {
            return no(-7);
        }
        if (tape.length() + n > 80) {
            return no(-8);
        }
        String hex = String.format("%08x", bytes);
        for (int i = 4 - n; i < 4; i++) {
            tape.append((char) Integer.parseInt(hex.substring(2 * i, 2 * i + 2), 16));
        }
        return tape.length();
    }

    int wipe() {
        int had = tape.length();
        tape.setLength(0);
        return had;
    }

    /** Faults are FaultTest's matter: here one is only told apart from a rule, as -10. */
    int rule(int from, int to) {
        if (from < 0 || from > 100000 || to < 0 || to > 100000 || from >= to) {
            return no(-7);
        }
        if (orders.size() == 10) {
            return no(-8);
        }
        Matcher whole = RULE.matcher(tape);
        if (!whole.matches()) {
            return -10;
        }
        Order order = new Order();
        order.bans = whole.group(1).equals("ban");
        order.number = Integer.parseInt(whole.group(2));
        order.text = tape.toString();
        order.from = from;
        order.to = to;
        orders.add(order);
        tape.setLength(0);
        return orders.size() - 1;
    }

    private boolean holds(Order order, int person, int shop, int good) {
        boolean all = order.from <= day && day < order.to;
        Matcher test = ONE_TEST.matcher(order.text);
        while (test.find()) {
            Place place = places.get(shop);
            int fact = switch (test.group(2)) {
                case "street" -> place.street;
                case "shop" -> shop;
                case "arch" -> place.arch;
                case "person" -> person;
                default -> good;
            };
            String so = "<=>".substring(1 + Integer.compare(fact, Integer.parseInt(test.group(4)))).substring(0, 1);
            all &= so.equals(test.group(3)) != (test.group(1) != null);
        }
        return all;
    }

    private int ban(int person, int shop, int good) {
        for (int r = 0; r < orders.size(); r++) {
            Order order = orders.get(r);
            if (order.bans && holds(order, person, shop, good) && (order.number == 99 || order.number == good)) {
                return r;
            }
        }
        return -1;
    }

    int may(int person, int shop, int good) {
        if (!isPerson(person) || !isShop(shop) || good < 0 || good > 9) {
            return no(-3);
        }
        Place place = places.get(shop);
        boolean sits = place.let != null && place.let[0] == person;
        if (place.parts[1][person] == 0 && !sits) {
            return 0;
        }
        return ban(person, shop, good) < 0 ? 1 : 2;
    }

    int why(int told, int shop, int what) {
        if (told < 0 || told > 99 || !isShop(shop)) {
            return no(-3);
        }
        if (what < 0 || what > 2) {
            return no(-7);
        }
        int ban = ban(told / 10, shop, told % 10);
        int tax = 0;
        int least = -1;
        for (int r = 0; r < orders.size(); r++) {
            Order order = orders.get(r);
            if (!order.bans && holds(order, told / 10, shop, told % 10)) {
                tax = order.number;
                least = least < 0 && tax != 0 ? r : least;
            }
        }
        int quarrel = ban >= 0 && least >= 0 ? 10 * ban + least : -1;
        return new int[] {ban, tax, quarrel}[what];
    }

    int run(int n) {
        if (n < 0) {
            return no(-4);
        }
        if (n == 0 || n > 100) {
            return no(-7);
        }
        int paid = 0;
        for (int i = 0; i < n; i++) {
            for (Place place : places) {
                if (place.let != null) {
                    purses[place.let[0]] -= place.let[2];
                    parted(place.let[2], place.parts[1], 1);
                    paid += place.let[2];
                }
            }
            day++;
            for (Place place : places) {
                place.let = place.let != null && place.let[1] < day ? null : place.let;
            }
        }
        return paid;
    }

    int repair(int arch, int cost) {
        if (arch < 0 || arch > 5) {
            return no(-3);
        }
        if (cost < 0 || cost > 99999) {
            return no(-7);
        }
        List<Place> under = places.stream().filter(p -> p.arch == arch).toList();
        if (under.isEmpty()) {
            return no(-2);
        }
        for (int i = 0; i < under.size(); i++) {
            int borne = cost / under.size() + (i == 0 ? cost % under.size() : 0);
            int wall = 2 * borne / 3;
            parted(wall, under.get(i).parts[0], -1);
            parted(borne - wall, under.get(i).parts[1], -1);
        }
        return under.size();
    }

    int takes(int arch, int told) {
        if (arch < 0 || arch > 5) {
            return no(-3);
        }
        if (told < 1 || told > 9) {
            return no(-7);
        }
        int were = days[arch];
        days[arch] = told;
        return were;
    }

    int plan(int set) {
        if (set < 0 || set > 63) {
            return no(-3);
        }
        if (set == 0) {
            return no(-7);
        }
        int best = Integer.MAX_VALUE;
        for (List<Integer> order : permutations(set)) {
            List<Integer> begins = begins(order);
            int end = 0;
            for (int i = 0; i < order.size(); i++) {
                end = Math.max(end, begins.get(i) + days[order.get(i)]);
            }
            if (end < best) {
                best = end;
                planOrder = order;
                planDays = begins;
            }
        }
        return best;
    }

    private static List<List<Integer>> permutations(int set) {
        List<List<Integer>> found = new ArrayList<>();
        if (set == 0) {
            found.add(new ArrayList<>());
        }
        for (int a = 0; a < 6; a++) {
            if ((set & 1 << a) != 0) {
                for (List<Integer> rest : permutations(set ^ 1 << a)) {
                    List<Integer> whole = new ArrayList<>(List.of(a));
                    whole.addAll(rest);
                    found.add(whole);
                }
            }
        }
        return found;
    }

    /** Keeps who is under repair on each day in a calendar. */
    private List<Integer> begins(List<Integer> order) {
        List<List<Integer>> calendar = new ArrayList<>();
        for (int d = 0; d < 120; d++) {
            calendar.add(new ArrayList<>());
        }
        List<Integer> begins = new ArrayList<>();
        int d = 0;
        for (int arch : order) {
            while (calendar.get(d).size() >= 2 || calendar.get(d).stream().anyMatch(o -> shareStreet(o, arch))) {
                d++;
            }
            begins.add(d);
            for (int i = 0; i < days[arch]; i++) {
                calendar.get(d + i).add(arch);
            }
        }
        return begins;
    }

    private boolean shareStreet(int one, int other) {
        return places.stream().anyMatch(p -> p.arch == one
                && places.stream().anyMatch(q -> q.arch == other && q.street == p.street));
    }

    int planned(int i, boolean when) {
        if (planOrder == null) {
            return no(-2);
        }
        if (i < 0 || i >= planOrder.size()) {
            return no(-3);
        }
        return when ? planDays.get(i) : planOrder.get(i);
    }

    private boolean beside(int one, int other) {
        Place p = places.get(one);
        Place q = places.get(other);
        if (one == other) {
            return false;
        }
        if (p.arch == q.arch) {
            return true;
        }
        if (p.street != q.street) {
            return false;
        }
        for (int s = Math.min(one, other) + 1; s < Math.max(one, other); s++) {
            if (places.get(s).street == p.street) {
                return false;
            }
        }
        return true;
    }

    private int[] fire(int from, int opened) {
        int[] when = new int[places.size()];
        Arrays.fill(when, -1);
        when[from] = 0;
        for (int minute = 1; minute <= 130; minute++) {
            for (int s = 0; s < when.length; s++) {
                for (int t = 0; t < when.length; t++) {
                    boolean lit = when[t] >= 0 && when[t] + places.get(s).hazard == minute;
                    if (when[s] < 0 && (opened & 1 << s) == 0 && lit && beside(s, t)) {
                        when[s] = minute;
                    }
                }
            }
        }
        return when;
    }

    int burns(int from, int shop, int opened) {
        if (!isShop(from) || !isShop(shop) || opened < 0 || opened >= 1 << places.size()) {
            return no(-3);
        }
        if ((opened & 1 << from) != 0) {
            return no(-7);
        }
        return fire(from, opened)[shop];
    }

    int lost(int from, int minute, int opened) {
        if (!isShop(from) || opened < 0 || opened >= 1 << places.size()) {
            return no(-3);
        }
        if ((opened & 1 << from) != 0 || minute < 0 || minute > 999) {
            return no(-7);
        }
        return loss(from, minute, opened);
    }

    private int loss(int from, int minute, int opened) {
        int[] when = fire(from, opened);
        int sum = 0;
        for (int s = 0; s < when.length; s++) {
            sum += when[s] >= 0 && when[s] <= minute ? places.get(s).worth : 0;
        }
        return sum;
    }

    int stop(int from, int minute, int k) {
        if (!isShop(from)) {
            return no(-3);
        }
        if (minute < 0 || minute > 999 || k < 0 || k > 2) {
            return no(-7);
        }
        long best = Long.MAX_VALUE;
        for (int set = 0; set < 1 << places.size(); set++) {
            if (Integer.bitCount(set) <= k && (set & 1 << from) == 0) {
                int worth = 0;
                for (int s = 0; s < places.size(); s++) {
                    worth += (set & 1 << s) != 0 ? places.get(s).worth : 0;
                }
                long cost = loss(from, minute, set) + worth / 2;
                // one number that orders by cost, then by how many, then by the set
                best = Math.min(best, cost << 32 | (long) Integer.bitCount(set) << 16 | set);
            }
        }
        return (int) (best & 0xffff);
    }

    int count(int what) {
        int lets = (int) places.stream().filter(p -> p.let != null).count();
        int pawns = places.stream().mapToInt(p -> p.pawns.size()).sum();
        int[] all = {day, places.size(), orders.size(), tape.length(), lets, pawns};
        return what < 0 || what > 5 ? no(-7) : all[what];
    }

    int lay(int shop, int kind) {
        if (!isShop(shop)) {
            return no(-3);
        }
        if (kind < 0 || kind > 1) {
            return no(-5);
        }
        numbers = places.get(shop).parts[kind].clone();
        return 10;
    }

    int tear() {
        int was = numbers == null ? 0 : 1;
        numbers = null;
        return was;
    }

    int row(int i) {
        if (numbers == null) {
            return no(-2);
        }
        return i < 0 || i > 9 ? no(-3) : numbers[i];
    }

    int copy(int i, int j, int n) {
        if (numbers == null) {
            return no(-2);
        }
        if (n < 0) {
            return no(-4);
        }
        if (i < 0 || j < 0 || (long) i + n > 10 || (long) j + n > 10) {
            return no(-6);
        }
        int[] were = numbers.clone();
        for (int at = 0; at < n; at++) {
            numbers[j + at] = were[i + at];
        }
        return n;
    }

    int status(int by) {
        return by < -8 || by > -2 ? no(-7) : refusals.getOrDefault(by, 0);
    }
}
