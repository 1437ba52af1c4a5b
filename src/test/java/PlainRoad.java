import java.math.BigInteger;
import java.util.ArrayList;
import java.util.LinkedHashMap;
import java.util.List;
import java.util.Map;
import java.util.TreeMap;
import java.util.TreeSet;
import java.util.regex.Matcher;
import java.util.regex.Pattern;

/**
 * The document once more, in its plainest form and with the whole Java library: all orders and tours are
 * tried, all is summed anew, laws are read by patterns. The random runs compare the program with it.
 */
final class PlainRoad {
    private record Beast(int kind, int from, int told) { }

    private record Gone(int beast, int from, int told) { }

    private record Town(int first, int last, int brings) { }

    private record Tour(int value, List<Integer> towns) { }

    private static final Pattern CLAUSE = Pattern.compile(" *(no|most|fee|per|from|to) +([0-9]{1,5}) *");

    private int now = 0;
    private final int[] feeds = {1, 1, 1, 1, 1, 1, 1, 1};
    private final int[] weights = {1, 1, 1, 1, 1, 1, 1, 1};
    private final List<Beast> beasts = new ArrayList<>();
    private final List<Gone> tellings = new ArrayList<>();
    private final List<int[]> lines = new ArrayList<>();
    private final Map<Integer, Integer> wagonOf = new TreeMap<>();
    private final boolean[][] bars = new boolean[8][8];
    private final List<Town> towns = new ArrayList<>();
    private final Map<List<Integer>, Integer> ways = new LinkedHashMap<>();
    private int fodder = 0;
    private String tape = "";
    private final Map<Integer, Map<String, Integer>> laws = new TreeMap<>();
    private final TreeSet<Integer> walls = new TreeSet<>();
    private int away = -1;
    private int hours = 0;
    private BigInteger[] maybes = new BigInteger[64];

    private static boolean in(int n, int least, int most) {
        return least <= n && n <= most;
    }

    boolean kind(int kind, int feed, int weight) {
        if (!in(kind, 0, 7) || !in(feed, 0, 100) || !in(weight, 1, 1000)) {
            return false;
        }
        int old = weights[kind];
        weights[kind] = weight;
        for (int wagon = 0; wagon < 8; wagon++) {
            if (wagon(wagon, 0) > 2000) {
                weights[kind] = old;
                return false;
            }
        }
        feeds[kind] = feed;
        return true;
    }

    int beast(int kind, int from) {
        if (!in(kind, 0, 7) || !in(from, 0, now) || beasts.size() == 40) {
            return -1;
        }
        beasts.add(new Beast(kind, from, now));
        return beasts.size() - 1;
    }

    boolean gone(int beast, int from) {
        if (!isBeast(beast) || tellings.size() == 200) {
            return false;
        }
        if (from != -1 && (from < beasts.get(beast).from || from > now)) {
            return false;
        }
        tellings.add(new Gone(beast, from, now));
        return true;
    }

    boolean here(int beast, int day, int q) {
        if (!isBeast(beast) || !in(day, 0, now) || !in(q, 0, now)) {
            return false;
        }
        int gone = -1;
        for (Gone telling : tellings) {
            if (telling.beast == beast && telling.told <= q) {
                gone = telling.from;
            }
        }
        Beast it = beasts.get(beast);
        return it.told <= q && it.from <= day && (gone == -1 || day < gone);
    }

    int ration(int day, int q) {
        if (!in(day, 0, now) || !in(q, 0, now)) {
            return -1;
        }
        int sum = 0;
        for (int beast = 0; beast < beasts.size(); beast++) {
            sum += here(beast, day, q) ? feeds[beasts.get(beast).kind] : 0;
        }
        return sum;
    }

    int day() {
        List<int[]> more = new ArrayList<>();
        for (int day = 0; day <= now; day++) {
            int difference = ration(day, now) - booked(day);
            if (difference != 0) {
                more.add(new int[] {now, day, difference});
            }
        }
        if (now == 400 || lines.size() + more.size() > 20_000) {
            return -1;
        }
        lines.addAll(more);
        now++;
        return more.size();
    }

    int line(int i, int what) {
        return in(i, 0, lines.size() - 1) && in(what, 0, 2) ? lines.get(i)[what] : -1_000_000;
    }

    int booked(int day) {
        return lines.stream().filter(line -> line[1] == day).mapToInt(line -> line[2]).sum();
    }

    boolean load(int beast, int wagon) {
        if (!isBeast(beast) || !in(wagon, -1, 7) || wagonOf.getOrDefault(beast, -1) == wagon) {
            return false;
        }
        if (wagon == -1) {
            wagonOf.remove(beast);
            return true;
        }
        if (wagon(wagon, 0) + weights[beasts.get(beast).kind] > 2000) {
            return false;
        }
        wagonOf.put(beast, wagon);
        return true;
    }

    boolean bar(int one, int other, boolean is) {
        if (!in(one, 0, 7) || !in(other, 0, 7) || bars[one][other] == is) {
            return false;
        }
        bars[one][other] = is;
        bars[other][one] = is;
        return true;
    }

    int wagon(int wagon, int what) {
        if (!in(wagon, 0, 7) || !in(what, 0, 2)) {
            return -1;
        }
        List<Integer> kinds = kindsIn(wagon);
        if (what == 0) {
            return kinds.stream().mapToInt(kind -> weights[kind]).sum();
        }
        if (what == 1) {
            return kinds.size();
        }
        for (int i = 0; i < kinds.size(); i++) {
            for (int j = i + 1; j < kinds.size(); j++) {
                if (bars[kinds.get(i)][kinds.get(j)]) {
                    return 0;
                }
            }
        }
        return 1;
    }

    int order(int i) {
        List<Integer> order = firstOrder(new ArrayList<>(), new TreeSet<>(wagonOf.values()));
        return order != null && in(i, 0, order.size() - 1) ? order.get(i) : -1;
    }

    private List<Integer> firstOrder(List<Integer> begun, TreeSet<Integer> left) {
        if (left.isEmpty()) {
            return begun;
        }
        for (int next : left) {
            if (!begun.isEmpty() && wagonsBar(begun.get(begun.size() - 1), next)) {
                continue;
            }
            List<Integer> longer = new ArrayList<>(begun);
            longer.add(next);
            TreeSet<Integer> fewer = new TreeSet<>(left);
            fewer.remove(next);
            List<Integer> found = firstOrder(longer, fewer);
            if (found != null) {
                return found;
            }
        }
        return null;
    }

    private boolean wagonsBar(int one, int other) {
        for (int kind : kindsIn(one)) {
            for (int foe : kindsIn(other)) {
                if (bars[kind][foe]) {
                    return true;
                }
            }
        }
        return false;
    }

    private List<Integer> kindsIn(int wagon) {
        List<Integer> kinds = new ArrayList<>();
        wagonOf.forEach((beast, in) -> {
            if (in == wagon) {
                kinds.add(beasts.get(beast).kind);
            }
        });
        return kinds;
    }

    int town(int first, int last, int brings) {
        boolean days = in(first, 0, 1000) && in(last, 0, 1000) && first <= last;
        if (!days || !in(brings, 0, 10_000) || towns.size() == 8) {
            return -1;
        }
        towns.add(new Town(first, last, brings));
        return towns.size() - 1;
    }

    boolean way(int one, int other, int days) {
        if (!isTown(one) || !isTown(other) || one == other || !in(days, 1, 60)) {
            return false;
        }
        ways.put(List.of(one, other), days);
        ways.put(List.of(other, one), days);
        return true;
    }

    boolean fodder(int coins) {
        if (!in(coins, 0, 1000)) {
            return false;
        }
        fodder = coins;
        return true;
    }

    int tour(int town, int day) {
        return isTown(town) && in(day, 0, 1000) ? best(town, day).value : -1;
    }

    int stop(int town, int day, int i) {
        if (!isTown(town) || !in(day, 0, 1000)) {
            return -1;
        }
        List<Integer> stops = best(town, day).towns;
        return in(i, 0, stops.size() - 1) ? stops.get(i) : -1;
    }

    private Tour best(int town, int day) {
        List<Tour> all = new ArrayList<>();
        all.add(new Tour(0, List.of()));
        gather(all, new ArrayList<>(List.of(town)), day, day, 0);
        Tour best = all.get(0);
        for (Tour tour : all) {
            best = compare(tour, best) < 0 ? tour : best;
        }
        return best;
    }

    private void gather(List<Tour> all, List<Integer> towns, int beginning, int arrival, int brought) {
        Town last = this.towns.get(towns.get(towns.size() - 1));
        if (arrival > last.last) {
            return;
        }
        int end = Math.max(arrival, last.first) + 1;
        int inAll = brought + last.brings;
        all.add(new Tour(inAll - fodder * (end - beginning), towns));
        for (int next = 0; next < this.towns.size(); next++) {
            if (!towns.contains(next)) {
                List<Integer> longer = new ArrayList<>(towns);
                longer.add(next);
                int days = ways.getOrDefault(List.of(towns.get(towns.size() - 1), next), 9);
                gather(all, longer, beginning, end + days, inAll);
            }
        }
    }

    private static int compare(Tour one, Tour other) {
        if (one.value != other.value) {
            return other.value - one.value;
        }
        if (one.towns.size() != other.towns.size()) {
            return one.towns.size() - other.towns.size();
        }
        for (int i = 0; i < one.towns.size(); i++) {
            if (!one.towns.get(i).equals(other.towns.get(i))) {
                return one.towns.get(i) - other.towns.get(i);
            }
        }
        return 0;
    }

    int feed(int a, int b, int c, int d, int e) {
        StringBuilder more = new StringBuilder();
        for (int number : new int[] {a, b, c, d, e}) {
            for (int i = 3; i >= 0; i--) {
                more.append((char) (number >> 8 * i & 255));
            }
        }
        String longer = tape + more.toString().replace("\0", "");
        if (longer.length() > 200) {
            return -1;
        }
        tape = longer;
        return tape.length();
    }

    boolean end(int n) {
        if (!in(n, 0, tape.length())) {
            return false;
        }
        tape = tape.substring(0, n);
        return true;
    }

    int fault() {
        return read(new LinkedHashMap<>());
    }

    boolean law(int town) {
        Map<String, Integer> read = new LinkedHashMap<>();
        if (!isTown(town) || read(read) != -1) {
            return false;
        }
        laws.put(town, read);
        tape = "";
        return true;
    }

    private int read(Map<String, Integer> read) {
        if (tape.replace(" ", "").isEmpty()) {
            return -1;
        }
        int begin = 0;
        for (String clause : tape.split(";", -1)) {
            if (!readClause(clause, read)) {
                int blanks = 0;
                while (blanks < clause.length() && clause.charAt(blanks) == ' ') {
                    blanks++;
                }
                return begin + blanks;
            }
            begin += clause.length() + 1;
        }
        return -1;
    }

    private static boolean readClause(String clause, Map<String, Integer> read) {
        Matcher matcher = CLAUSE.matcher(clause);
        if (!matcher.matches()) {
            return false;
        }
        int number = Integer.parseInt(matcher.group(2));
        boolean forbids = matcher.group(1).equals("no");
        if (forbids && number > 7) {
            return false;
        }
        return read.put(forbids ? "no" + number : matcher.group(1), number) == null;
    }

    int may(int town, int hour) {
        if (!isTown(town) || !in(hour, 0, 23)) {
            return -1;
        }
        Map<String, Integer> law = laws.getOrDefault(town, Map.of());
        for (int beast = 0; beast < beasts.size(); beast++) {
            if (here(beast, now, now) && law.containsKey("no" + beasts.get(beast).kind)) {
                return 1;
            }
        }
        if (count(2) > law.getOrDefault("most", 40)) {
            return 2;
        }
        return hour < law.getOrDefault("from", 0) || hour > law.getOrDefault("to", 23) ? 3 : 0;
    }

    int fee(int town) {
        if (!isTown(town)) {
            return -1;
        }
        Map<String, Integer> law = laws.getOrDefault(town, Map.of());
        return law.getOrDefault("fee", 0) + law.getOrDefault("per", 0) * count(2);
    }

    boolean wall(int cell, boolean is) {
        if (!in(cell, 0, 63) || away != -1) {
            return false;
        }
        return is ? walls.add(cell) : walls.remove(cell);
    }

    boolean away(int beast, int cell) {
        if (!isBeast(beast) || !in(cell, 0, 63) || walls.contains(cell) || away != -1) {
            return false;
        }
        away = beast;
        hours = 0;
        for (int i = 0; i < 64; i++) {
            maybes[i] = i == cell ? BigInteger.ONE : BigInteger.ZERO;
        }
        return true;
    }

    int hour() {
        if (away == -1 || hours == 20) {
            return -1;
        }
        BigInteger[] next = new BigInteger[64];
        for (int cell = 0; cell < 64; cell++) {
            next[cell] = maybes[cell].multiply(BigInteger.valueOf(5 - openBeside(cell).size()));
            for (int from : openBeside(cell)) {
                next[cell] = next[cell].add(walls.contains(cell) ? BigInteger.ZERO : maybes[from]);
            }
        }
        maybes = next;
        return ++hours;
    }

    private List<Integer> openBeside(int cell) {
        List<Integer> found = new ArrayList<>();
        for (int other = 0; other < 64; other++) {
            int steps = Math.abs(other / 8 - cell / 8) + Math.abs(other % 8 - cell % 8);
            if (steps == 1 && !walls.contains(other)) {
                found.add(other);
            }
        }
        return found;
    }

    int look(int cell) {
        if (away == -1 || !in(cell, 0, 63)) {
            return -1;
        }
        if (maybes[cell].signum() == 0) {
            return 0;
        }
        BigInteger here = maybes[cell];
        maybes[cell] = BigInteger.ZERO;
        if (sum().signum() > 0) {
            return 1;
        }
        maybes[cell] = here;
        away = -1;
        return 2;
    }

    long maybe(int cell) {
        return away != -1 && in(cell, 0, 63) ? maybes[cell].longValueExact() : -1;
    }

    long chance(int cell, int what) {
        if (away == -1 || !in(cell, 0, 63) || !in(what, 0, 1)) {
            return -1;
        }
        BigInteger common = maybes[cell].gcd(sum());
        return (what == 0 ? maybes[cell] : sum()).divide(common).longValueExact();
    }

    int where() {
        int found = away == -1 ? -1 : 0;
        for (int cell = 0; cell < 64 && away != -1; cell++) {
            found = maybes[cell].compareTo(maybes[found]) > 0 ? cell : found;
        }
        return found;
    }

    private BigInteger sum() {
        BigInteger sum = BigInteger.ZERO;
        for (BigInteger maybe : maybes) {
            sum = sum.add(maybe);
        }
        return sum;
    }

    int count(int what) {
        int hereNow = 0;
        for (int beast = 0; beast < beasts.size(); beast++) {
            hereNow += here(beast, now, now) ? 1 : 0;
        }
        int units = lines.stream().mapToInt(line -> line[2]).sum();
        int[] counts = {now, beasts.size(), hereNow, lines.size(), units, towns.size(), tape.length(), away, hours,
            wagonOf.size()};
        return in(what, 0, 9) ? counts[what] : -1;
    }

    private boolean isBeast(int beast) {
        return in(beast, 0, beasts.size() - 1);
    }

    private boolean isTown(int town) {
        return in(town, 0, towns.size() - 1);
    }
}
