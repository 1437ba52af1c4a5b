import java.util.Arrays;

/**
 * A travelling menagerie: its beasts and their food, its wagons, its tours from fair to fair, the
 * towns' laws, and the search for a beast that got away. A call that is refused changes nothing.
 */
public final class BeastRoad {
    public static final int NONE = -1;

    private static final int NO_ENTRY = -1_000_000;

    private static final int KINDS = 8;
    private static final int MOST_FEED = 100;
    private static final int MOST_WEIGHT = 1_000;
    private static final int MOST_BEASTS = 40;
    private static final int MOST_TELLINGS = 200;
    private static final int LAST_DAY = 400;

    private static final int MOST_LINES = 20_000;
    private static final int LINE_PARTS = 3;
    private static final int FIRST_LINES = 32;

    private static final int WAGONS = 8;
    private static final int WAGON_SETS = 256;
    private static final int WAGON_BEARS = 2_000;

    private static final int TOWNS = 8;
    private static final int LAST_FAIR_DAY = 1_000;
    private static final int MOST_BROUGHT = 10_000;
    private static final int LONGEST_WAY = 60;
    private static final int USUAL_WAY = 9;
    private static final int MOST_FODDER = 1_000;

    private static final int TAPE_BYTES = 200;
    private static final int MOST_DIGITS = 5;
    private static final int HOURS_OF_DAY = 24;

    // The sorts of clauses.
    private static final int NO = 0;
    private static final int MOST = 1;
    private static final int FEE = 2;
    private static final int PER = 3;
    private static final int FROM = 4;
    private static final int TO = 5;
    private static final int SORTS = 6;

    private static final int SIDE = 8;
    private static final int CELLS = 64;
    private static final int DIRECTIONS = 4;
    private static final int SHARES = 5;
    private static final int MOST_HOURS = 20;
    // Euclid's steps on two longs stay below 93.
    private static final int DIVISOR_STEPS = 128;

    private final Herd herd;
    private final Book book;
    private final Wagons wagons;
    private final Fairs fairs;
    private final Tape tape;
    private final Law[] laws;
    private final Law draft;
    private final Field field;

    public BeastRoad() {
        herd = new Herd();
        book = new Book();
        wagons = new Wagons(herd);
        fairs = new Fairs();
        tape = new Tape();
        laws = new Law[TOWNS];
        for (int town = 0; town < TOWNS; town++) {
            laws[town] = new Law();
        }
        draft = new Law();
        field = new Field();
    }

    public boolean kind(int kind, int feed, int weight) {
        if (!isKind(kind) || !within(feed, 0, MOST_FEED) || !within(weight, 1, MOST_WEIGHT)) {
            return false;
        }
        if (!wagons.wouldBear(kind, weight)) {
            return false;
        }
        herd.setKind(kind, feed, weight);
        return true;
    }

    public int beast(int kind, int from) {
        return herd.tellBeast(kind, from);
    }

    public boolean gone(int beast, int from) {
        return herd.tellGone(beast, from);
    }

    public boolean here(int beast, int day, int q) {
        return herd.isHere(beast, day, q);
    }

    public int ration(int day, int q) {
        return herd.rationOf(day, q);
    }

    public int day() {
        if (herd.today() >= LAST_DAY) {
            return NONE;
        }
        int made = book.closeDay(herd.today(), herd.rationsToToday());
        if (made != NONE) {
            herd.nextDay();
        }
        return made;
    }

    public int line(int i, int what) {
        return book.linePart(i, what);
    }

    public int booked(int day) {
        return book.unitsFor(day);
    }

    public boolean load(int beast, int wagon) {
        return wagons.put(beast, wagon);
    }

    public boolean bar(int one, int other, boolean is) {
        return wagons.setBar(one, other, is);
    }

    public int wagon(int wagon, int what) {
        if (!within(wagon, 0, WAGONS - 1)) {
            return NONE;
        }
        switch (what) {
            case 0:
                return wagons.weightIn(wagon);
            case 1:
                return wagons.beastsIn(wagon);
            case 2:
                return wagons.isSound(wagon) ? 1 : 0;
            default:
                return NONE;
        }
    }

    public int order(int i) {
        return wagons.placeInOrder(i);
    }

    public int town(int first, int last, int brings) {
        return fairs.addTown(first, last, brings);
    }

    public boolean way(int one, int other, int days) {
        return fairs.setWay(one, other, days);
    }

    public boolean fodder(int coins) {
        return fairs.setFodder(coins);
    }

    public int tour(int town, int day) {
        return fairs.bestBrings(town, day);
    }

    public int stop(int town, int day, int i) {
        return fairs.bestStop(town, day, i);
    }

    public int feed(int a, int b, int c, int d, int e) {
        int more = Tape.bytesIn(a) + Tape.bytesIn(b) + Tape.bytesIn(c) + Tape.bytesIn(d) + Tape.bytesIn(e);
        if (!tape.hasRoomFor(more)) {
            return NONE;
        }
        tape.append(a);
        tape.append(b);
        tape.append(c);
        tape.append(d);
        tape.append(e);
        return tape.size();
    }

    public boolean end(int n) {
        return tape.cutTo(n);
    }

    public int fault() {
        return tape.readInto(draft);
    }

    public boolean law(int town) {
        if (!fairs.isTown(town) || tape.readInto(draft) != NONE) {
            return false;
        }
        laws[town].copyFrom(draft);
        return tape.cutTo(0);
    }

    public int may(int town, int hour) {
        if (!fairs.isTown(town) || !within(hour, 0, HOURS_OF_DAY - 1)) {
            return NONE;
        }
        return laws[town].verdict(herd.kindsHereToday(), herd.beastsHereToday(), hour);
    }

    public int fee(int town) {
        return fairs.isTown(town) ? laws[town].price(herd.beastsHereToday()) : NONE;
    }

    public boolean wall(int cell, boolean is) {
        return field.setWall(cell, is);
    }

    public boolean away(int beast, int cell) {
        return herd.isBeast(beast) && field.lose(beast, cell);
    }

    public int hour() {
        return field.passHour();
    }

    public int look(int cell) {
        return field.lookAt(cell);
    }

    public long maybe(int cell) {
        return field.maybeOf(cell);
    }

    public long chance(int cell, int what) {
        return field.chanceOf(cell, what);
    }

    public int where() {
        return field.likeliest();
    }

    public int count(int what) {
        switch (what) {
            case 0:
                return herd.today();
            case 1:
                return herd.size();
            case 2:
                return herd.beastsHereToday();
            case 3:
                return book.size();
            case 4:
                return book.unitsInAll();
            case 5:
                return fairs.size();
            case 6:
                return tape.size();
            case 7:
                return field.beastAway();
            case 8:
                return field.hoursGone();
            case 9:
                return wagons.beastsInAll();
            default:
                return NONE;
        }
    }

    private static boolean within(int n, int least, int most) {
        return n >= least && n <= most;
    }

    private static boolean isKind(int kind) {
        return within(kind, 0, KINDS - 1);
    }

    private static boolean has(int set, int member) {
        return (set >> member & 1) != 0;
    }

    /** The kinds and the beasts, with all that was told of them and when; and what day it is. */
    private static final class Herd {
        private final int[] feedOf = new int[KINDS];
        private final int[] weightOf = new int[KINDS];

        private int beasts;
        private final int[] kindOf = new int[MOST_BEASTS];
        private final int[] firstDay = new int[MOST_BEASTS];
        private final int[] toldOn = new int[MOST_BEASTS];

        // What was told of beasts that are gone, in the order of telling.
        private int tellings;
        private final int[] tellingBeast = new int[MOST_TELLINGS];
        private final int[] tellingFrom = new int[MOST_TELLINGS];
        private final int[] tellingOn = new int[MOST_TELLINGS];

        private int now;

        // Filled anew by each call that needs them; kept so that no call makes rows.
        private final int[] goneFrom = new int[MOST_BEASTS];
        private final int[] rations = new int[LAST_DAY + 1];

        Herd() {
            Arrays.fill(feedOf, 1);
            Arrays.fill(weightOf, 1);
        }

        int today() {
            return now;
        }

        void nextDay() {
            now++;
        }

        int size() {
            return beasts;
        }

        boolean isBeast(int beast) {
            return within(beast, 0, beasts - 1);
        }

        int kindOfBeast(int beast) {
            return isBeast(beast) ? kindOf[beast] : NONE;
        }

        int weightOfKind(int kind) {
            return isKind(kind) ? weightOf[kind] : 0;
        }

        void setKind(int kind, int feed, int weight) {
            if (isKind(kind)) {
                feedOf[kind] = feed;
                weightOf[kind] = weight;
            }
        }

        int tellBeast(int kind, int from) {
            if (!isKind(kind) || !isDay(from) || beasts >= MOST_BEASTS) {
                return NONE;
            }
            kindOf[beasts] = kind;
            firstDay[beasts] = from;
            toldOn[beasts] = now;
            beasts++;
            return beasts - 1;
        }

        boolean tellGone(int beast, int from) {
            if (!isBeast(beast) || tellings >= MOST_TELLINGS) {
                return false;
            }
            if (from != NONE && !within(from, firstDay[beast], now)) {
                return false;
            }
            tellingBeast[tellings] = beast;
            tellingFrom[tellings] = from;
            tellingOn[tellings] = now;
            tellings++;
            return true;
        }

        boolean isHere(int beast, int day, int q) {
            if (!isBeast(beast) || !isDay(day) || !isDay(q)) {
                return false;
            }
            recall(q);
            return stands(beast, day, q);
        }

        int rationOf(int day, int q) {
            if (!isDay(day) || !isDay(q)) {
                return NONE;
            }
            recall(q);
            int sum = 0;
            for (int beast = 0; beast < beasts; beast++) {
                if (stands(beast, day, q)) {
                    sum += feedOf[kindOf[beast]];
                }
            }
            return sum;
        }

        /** The ration of each day up to today, as known today: summed from what changes on a day. */
        int[] rationsToToday() {
            Arrays.fill(rations, 0);
            recall(now);
            for (int beast = 0; beast < beasts; beast++) {
                int eats = feedOf[kindOf[beast]];
                rations[firstDay[beast]] += eats;
                if (goneFrom[beast] != NONE) {
                    rations[goneFrom[beast]] -= eats;
                }
            }
            for (int day = 1; day <= now; day++) {
                rations[day] += rations[day - 1];
            }
            return rations;
        }

        int beastsHereToday() {
            recall(now);
            int sum = 0;
            for (int beast = 0; beast < beasts; beast++) {
                if (stands(beast, now, now)) {
                    sum++;
                }
            }
            return sum;
        }

        int kindsHereToday() {
            recall(now);
            int kinds = 0;
            for (int beast = 0; beast < beasts; beast++) {
                if (stands(beast, now, now)) {
                    kinds |= 1 << kindOf[beast];
                }
            }
            return kinds;
        }

        private boolean isDay(int day) {
            return within(day, 0, now);
        }

        private void recall(int q) {
            Arrays.fill(goneFrom, NONE);
            for (int i = 0; i < tellings && tellingOn[i] <= q; i++) {
                goneFrom[tellingBeast[i]] = tellingFrom[i];
            }
        }

        /** Looks at what recall(q) left in goneFrom. */
        private boolean stands(int beast, int day, int q) {
            boolean come = toldOn[beast] <= q && firstDay[beast] <= day;
            return come && (goneFrom[beast] == NONE || goneFrom[beast] > day);
        }
    }

    /** What was booked for each day, and the lines by which it was. */
    private static final class Book {
        private final int[] units = new int[LAST_DAY + 1];
        private int all;
        // A line after the other, each with its parts; grows, since most objects need few lines.
        private int[] lines = new int[FIRST_LINES * LINE_PARTS];
        private int count;

        int size() {
            return count;
        }

        int unitsInAll() {
            return all;
        }

        int unitsFor(int day) {
            return within(day, 0, LAST_DAY) ? units[day] : 0;
        }

        int linePart(int i, int what) {
            if (!within(i, 0, count - 1) || !within(what, 0, LINE_PARTS - 1)) {
                return NO_ENTRY;
            }
            return lines[i * LINE_PARTS + what];
        }

        int closeDay(int today, int[] rations) {
            int due = linesDue(today, rations);
            if (count + due > MOST_LINES) {
                return NONE;
            }
            makeRoom(count + due);
            for (int day = 0; day <= today; day++) {
                int difference = rations[day] - units[day];
                if (difference != 0) {
                    write(today, day, difference);
                }
            }
            return due;
        }

        private int linesDue(int today, int[] rations) {
            int due = 0;
            for (int day = 0; day <= today; day++) {
                if (rations[day] != units[day]) {
                    due++;
                }
            }
            return due;
        }

        private void makeRoom(int wanted) {
            int needed = wanted * LINE_PARTS;
            if (needed > lines.length) {
                int doubled = Math.min(2 * lines.length, MOST_LINES * LINE_PARTS);
                lines = Arrays.copyOf(lines, Math.max(doubled, needed));
            }
        }

        private void write(int today, int day, int difference) {
            int at = count * LINE_PARTS;
            lines[at] = today;
            lines[at + 1] = day;
            lines[at + 2] = difference;
            count++;
            units[day] += difference;
            all += difference;
        }
    }

    /** Which beast is in which wagon, and which kinds bar one another. Sets are bits of an int. */
    private static final class Wagons {
        private final Herd herd;
        private final int[] wagonOf = new int[MOST_BEASTS];
        private final int[] barredBy = new int[KINDS];

        // Filled anew by each look for the order; kept so that no call makes rows.
        private final int[] kindsIn = new int[WAGONS];
        private final int[] foes = new int[WAGONS];
        private final int[] beginnings = new int[WAGON_SETS];

        Wagons(Herd herd) {
            this.herd = herd;
            Arrays.fill(wagonOf, NONE);
        }

        boolean put(int beast, int wagon) {
            if (!herd.isBeast(beast) || !within(wagon, NONE, WAGONS - 1) || wagonOf[beast] == wagon) {
                return false;
            }
            int weight = herd.weightOfKind(herd.kindOfBeast(beast));
            if (wagon != NONE && weightIn(wagon) + weight > WAGON_BEARS) {
                return false;
            }
            wagonOf[beast] = wagon;
            return true;
        }

        boolean setBar(int one, int other, boolean is) {
            if (!isKind(one) || !isKind(other) || has(barredBy[one], other) == is) {
                return false;
            }
            // Alike kinds would be turned twice by ^=, so each bit is set or cleared outright.
            if (is) {
                barredBy[one] |= 1 << other;
                barredBy[other] |= 1 << one;
            } else {
                barredBy[one] &= ~(1 << other);
                barredBy[other] &= ~(1 << one);
            }
            return true;
        }

        boolean wouldBear(int kind, int weight) {
            for (int wagon = 0; wagon < WAGONS; wagon++) {
                if (weightWith(wagon, kind, weight) > WAGON_BEARS) {
                    return false;
                }
            }
            return true;
        }

        int weightIn(int wagon) {
            return weightWith(wagon, NONE, 0);
        }

        int beastsIn(int wagon) {
            int sum = 0;
            for (int beast = 0; beast < herd.size(); beast++) {
                if (wagonOf[beast] == wagon) {
                    sum++;
                }
            }
            return sum;
        }

        int beastsInAll() {
            return herd.size() - beastsIn(NONE);
        }

        boolean isSound(int wagon) {
            for (int one = 0; one < herd.size(); one++) {
                if (wagonOf[one] == wagon && meetsFoeAhead(one)) {
                    return false;
                }
            }
            return true;
        }

        int placeInOrder(int i) {
            findKinds();
            int filled = filledWagons();
            if (!within(i, 0, Integer.bitCount(filled) - 1)) {
                return NONE;
            }
            findFoes();
            findBeginnings(filled);
            return placeByLowest(filled, i);
        }

        /** The weight in a wagon if each beast of a kind weighed so much. */
        private int weightWith(int wagon, int kind, int weight) {
            int sum = 0;
            for (int beast = 0; beast < herd.size(); beast++) {
                if (wagonOf[beast] == wagon) {
                    int its = herd.kindOfBeast(beast);
                    sum += its == kind ? weight : herd.weightOfKind(its);
                }
            }
            return sum;
        }

        private boolean meetsFoeAhead(int beast) {
            int barred = barredBy[herd.kindOfBeast(beast)];
            for (int other = 0; other < beast; other++) {
                if (wagonOf[other] == wagonOf[beast] && has(barred, herd.kindOfBeast(other))) {
                    return true;
                }
            }
            return false;
        }

        private void findKinds() {
            Arrays.fill(kindsIn, 0);
            for (int beast = 0; beast < herd.size(); beast++) {
                if (wagonOf[beast] != NONE) {
                    kindsIn[wagonOf[beast]] |= 1 << herd.kindOfBeast(beast);
                }
            }
        }

        private int filledWagons() {
            int filled = 0;
            for (int wagon = 0; wagon < WAGONS; wagon++) {
                if (kindsIn[wagon] != 0) {
                    filled |= 1 << wagon;
                }
            }
            return filled;
        }

        private void findFoes() {
            for (int wagon = 0; wagon < WAGONS; wagon++) {
                int barred = kindsBarredBy(kindsIn[wagon]);
                foes[wagon] = 0;
                for (int other = 0; other < WAGONS; other++) {
                    if ((barred & kindsIn[other]) != 0) {
                        foes[wagon] |= 1 << other;
                    }
                }
            }
        }

        private int kindsBarredBy(int kinds) {
            int barred = 0;
            for (int kind = 0; kind < KINDS; kind++) {
                if (has(kinds, kind)) {
                    barred |= barredBy[kind];
                }
            }
            return barred;
        }

        /**
         * For each set of filled wagons the wagons with which a fit order of that set can begin. A
         * set's smaller sets have smaller numbers, so they are known when it is its turn.
         */
        private void findBeginnings(int filled) {
            for (int set = 1; set < WAGON_SETS; set++) {
                beginnings[set] = (set & ~filled) == 0 ? beginningsOf(set) : 0;
            }
        }

        private int beginningsOf(int set) {
            int found = 0;
            for (int wagon = 0; wagon < WAGONS; wagon++) {
                if (has(set, wagon)) {
                    int rest = set & ~(1 << wagon);
                    if (rest == 0 || (beginnings[rest] & ~foes[wagon]) != 0) {
                        found |= 1 << wagon;
                    }
                }
            }
            return found;
        }

        private int placeByLowest(int filled, int i) {
            int rest = filled;
            int barred = 0;
            int wagon = NONE;
            for (int place = 0; place <= i; place++) {
                wagon = lowest(beginnings[rest] & ~barred);
                if (wagon == NONE) {
                    return NONE;
                }
                rest &= ~(1 << wagon);
                barred = foes[wagon];
            }
            return wagon;
        }

        private static int lowest(int set) {
            for (int wagon = 0; wagon < WAGONS; wagon++) {
                if (has(set, wagon)) {
                    return wagon;
                }
            }
            return NONE;
        }
    }

    /** The towns with their fairs and ways, and the best tour. */
    private static final class Fairs {
        private int towns;
        private final int[] first = new int[TOWNS];
        private final int[] last = new int[TOWNS];
        private final int[] brings = new int[TOWNS];
        private final int[] ways = new int[TOWNS * TOWNS];
        private int fodder;

        // The tour that was looked for last; a planned town of NONE: none that still holds.
        private int plannedTown = NONE;
        private int plannedDay;
        private final int[] best = new int[TOWNS];
        private int bestCount;
        private int bestValue;

        // The tour that is being tried.
        private final int[] path = new int[TOWNS];
        private int seen;

        Fairs() {
            Arrays.fill(ways, USUAL_WAY);
        }

        int size() {
            return towns;
        }

        boolean isTown(int town) {
            return within(town, 0, towns - 1);
        }

        int addTown(int firstDay, int lastDay, int brought) {
            if (towns >= TOWNS || !within(brought, 0, MOST_BROUGHT)) {
                return NONE;
            }
            if (!within(firstDay, 0, LAST_FAIR_DAY) || !within(lastDay, firstDay, LAST_FAIR_DAY)) {
                return NONE;
            }
            first[towns] = firstDay;
            last[towns] = lastDay;
            brings[towns] = brought;
            towns++;
            plannedTown = NONE;
            return towns - 1;
        }

        boolean setWay(int one, int other, int days) {
            if (!isTown(one) || !isTown(other) || one == other || !within(days, 1, LONGEST_WAY)) {
                return false;
            }
            ways[one * TOWNS + other] = days;
            ways[other * TOWNS + one] = days;
            plannedTown = NONE;
            return true;
        }

        boolean setFodder(int coins) {
            if (!within(coins, 0, MOST_FODDER)) {
                return false;
            }
            fodder = coins;
            plannedTown = NONE;
            return true;
        }

        int bestBrings(int town, int day) {
            return plan(town, day) ? bestValue : NONE;
        }

        int bestStop(int town, int day, int i) {
            return plan(town, day) && within(i, 0, bestCount - 1) ? best[i] : NONE;
        }

        private boolean plan(int town, int day) {
            if (!isTown(town) || !within(day, 0, LAST_FAIR_DAY)) {
                return false;
            }
            if (town != plannedTown || day != plannedDay) {
                plannedTown = town;
                plannedDay = day;
                bestCount = 0;
                bestValue = 0;
                seen = 0;
                visit(0, town, day, 0);
            }
            return true;
        }

        private void visit(int depth, int town, int arrival, int broughtSoFar) {
            if (depth >= TOWNS || arrival > last[town]) {
                return;
            }
            int leaving = Math.max(arrival, first[town]) + 1;
            int brought = broughtSoFar + brings[town];
            int value = brought - fodder * (leaving - plannedDay);
            path[depth] = town;
            seen |= 1 << town;
            keepIfBetter(depth + 1, value);
            if (mayGetBetter(depth + 1, value)) {
                goOn(depth, town, leaving, brought);
            }
            seen &= ~(1 << town);
        }

        /** Lower towns first: so the first tour that is found of several alike is the one to keep. */
        private void goOn(int depth, int town, int leaving, int brought) {
            for (int next = 0; next < towns; next++) {
                if (!has(seen, next)) {
                    visit(depth + 1, next, leaving + ways[town * TOWNS + next], brought);
                }
            }
        }

        private void keepIfBetter(int count, int value) {
            if (isBetter(count, value)) {
                bestCount = count;
                bestValue = value;
                System.arraycopy(path, 0, best, 0, count);
            }
        }

        private boolean isBetter(int count, int value) {
            return value > bestValue || value == bestValue && count < bestCount;
        }

        /**
         * Whether a longer tour with this beginning could still be better than the best: none brings
         * more than all that is left without any fodder, nor as much with fewer towns than bring it.
         */
        private boolean mayGetBetter(int count, int value) {
            int fewest = count;
            int most = value;
            for (int town = 0; town < towns; town++) {
                if (!has(seen, town) && brings[town] > 0) {
                    fewest++;
                    most += brings[town];
                }
            }
            return isBetter(fewest, most);
        }
    }

    /** Bytes that come in, and how they are read as laws. */
    private static final class Tape {
        private final int[] bytes = new int[TAPE_BYTES];
        private int length;

        static int bytesIn(int number) {
            int sum = 0;
            for (int shift = 24; shift >= 0; shift -= 8) {
                if ((number >>> shift & 255) != 0) {
                    sum++;
                }
            }
            return sum;
        }

        int size() {
            return length;
        }

        boolean hasRoomFor(int more) {
            return length + more <= TAPE_BYTES;
        }

        void append(int number) {
            for (int shift = 24; shift >= 0; shift -= 8) {
                int next = number >>> shift & 255;
                if (next != 0 && length < TAPE_BYTES) {
                    bytes[length] = next;
                    length++;
                }
            }
        }

        boolean cutTo(int n) {
            if (!within(n, 0, length)) {
                return false;
            }
            length = n;
            return true;
        }

        /** The fault, or NONE: only then the law holds what the tape says. */
        int readInto(Law law) {
            law.clear();
            int begin = pastBlanks(0);
            if (begin == length) {
                return NONE;
            }
            // Each clause but the last has a ; of its own, so there are no more than bytes and one.
            for (int clause = 0; clause <= TAPE_BYTES; clause++) {
                int behind = readClause(begin, law);
                if (behind == NONE) {
                    return begin;
                }
                if (behind == length) {
                    return NONE;
                }
                begin = pastBlanks(behind + 1);
            }
            return begin;
        }

        /** Where the clause's ; stands, or the end; NONE if the clause is wrong. */
        private int readClause(int begin, Law law) {
            int sort = sortAt(begin);
            if (sort == NONE) {
                return NONE;
            }
            int wordEnd = begin + wordOf(sort).length();
            int number = pastBlanks(wordEnd);
            int numberEnd = pastDigits(number);
            if (number == wordEnd || !within(numberEnd - number, 1, MOST_DIGITS)) {
                return NONE;
            }
            if (!law.take(sort, valueOf(number, numberEnd))) {
                return NONE;
            }
            int behind = pastBlanks(numberEnd);
            return behind == length || bytes[behind] == ';' ? behind : NONE;
        }

        private int sortAt(int at) {
            for (int sort = 0; sort < SORTS; sort++) {
                if (standsAt(at, wordOf(sort))) {
                    return sort;
                }
            }
            return NONE;
        }

        private boolean standsAt(int at, String word) {
            if (at + word.length() > length) {
                return false;
            }
            for (int i = 0; i < word.length(); i++) {
                if (bytes[at + i] != word.charAt(i)) {
                    return false;
                }
            }
            return true;
        }

        private int pastBlanks(int at) {
            int past = at;
            while (past < length && bytes[past] == ' ') {
                past++;
            }
            return past;
        }

        private int pastDigits(int at) {
            int past = at;
            while (past < length && within(bytes[past], '0', '9')) {
                past++;
            }
            return past;
        }

        private int valueOf(int from, int to) {
            int value = 0;
            for (int at = from; at < to; at++) {
                value = value * 10 + bytes[at] - '0';
            }
            return value;
        }

        private static String wordOf(int sort) {
            switch (sort) {
                case NO:
                    return "no";
                case MOST:
                    return "most";
                case FEE:
                    return "fee";
                case PER:
                    return "per";
                case FROM:
                    return "from";
                default:
                    return "to";
            }
        }
    }

    /** The laws of one town. */
    private static final class Law {
        private int forbidden;
        // By sort; NONE: there is no such clause.
        private final int[] numbers = new int[SORTS];

        Law() {
            Arrays.fill(numbers, NONE);
        }

        void clear() {
            forbidden = 0;
            Arrays.fill(numbers, NONE);
        }

        void copyFrom(Law other) {
            forbidden = other.forbidden;
            System.arraycopy(other.numbers, 0, numbers, 0, SORTS);
        }

        /** False if it may not stand: it stands already, or there is no such kind. */
        boolean take(int sort, int number) {
            if (sort == NO) {
                return forbid(number);
            }
            if (!within(sort, 0, SORTS - 1) || numbers[sort] != NONE) {
                return false;
            }
            numbers[sort] = number;
            return true;
        }

        int verdict(int kinds, int howMany, int hour) {
            if ((kinds & forbidden) != 0) {
                return 1;
            }
            if (isAbove(howMany, MOST)) {
                return 2;
            }
            return hour < numbers[FROM] || isAbove(hour, TO) ? 3 : 0;
        }

        int price(int howMany) {
            return numberOrZero(FEE) + numberOrZero(PER) * howMany;
        }

        private boolean forbid(int kind) {
            if (!isKind(kind) || has(forbidden, kind)) {
                return false;
            }
            forbidden |= 1 << kind;
            return true;
        }

        private boolean isAbove(int n, int sort) {
            return numbers[sort] != NONE && n > numbers[sort];
        }

        private int numberOrZero(int sort) {
            return Math.max(numbers[sort], 0);
        }
    }

    /** The field with its walls, and where the beast that got away may be. */
    private static final class Field {
        private final boolean[] walls = new boolean[CELLS];
        private final long[] maybes = new long[CELLS];
        private final long[] nextMaybes = new long[CELLS];
        private int beast = NONE;
        private int hours;

        int beastAway() {
            return beast;
        }

        int hoursGone() {
            return hours;
        }

        boolean setWall(int cell, boolean is) {
            if (beast != NONE || !isCell(cell) || walls[cell] == is) {
                return false;
            }
            walls[cell] = is;
            return true;
        }

        boolean lose(int lost, int cell) {
            if (beast != NONE || !isCell(cell) || walls[cell]) {
                return false;
            }
            beast = lost;
            hours = 0;
            Arrays.fill(maybes, 0L);
            maybes[cell] = 1L;
            return true;
        }

        int passHour() {
            if (beast == NONE || hours >= MOST_HOURS) {
                return NONE;
            }
            Arrays.fill(nextMaybes, 0L);
            for (int cell = 0; cell < CELLS; cell++) {
                spread(cell);
            }
            System.arraycopy(nextMaybes, 0, maybes, 0, CELLS);
            hours++;
            return hours;
        }

        int lookAt(int cell) {
            if (!isOpen(cell)) {
                return NONE;
            }
            if (maybes[cell] == 0L) {
                return 0;
            }
            if (maybes[cell] == allMaybes()) {
                beast = NONE;
                return 2;
            }
            maybes[cell] = 0L;
            return 1;
        }

        long maybeOf(int cell) {
            return isOpen(cell) ? maybes[cell] : NONE;
        }

        long chanceOf(int cell, int what) {
            if (!isOpen(cell) || !within(what, 0, 1)) {
                return NONE;
            }
            long all = allMaybes();
            long divisor = commonDivisor(maybes[cell], all);
            if (divisor == 0L) {
                return NONE;
            }
            return (what == 0 ? maybes[cell] : all) / divisor;
        }

        int likeliest() {
            if (beast == NONE) {
                return NONE;
            }
            int found = 0;
            for (int cell = 1; cell < CELLS; cell++) {
                if (maybes[cell] > maybes[found]) {
                    found = cell;
                }
            }
            return found;
        }

        private static boolean isCell(int cell) {
            return within(cell, 0, CELLS - 1);
        }

        private boolean isOpen(int cell) {
            return beast != NONE && isCell(cell);
        }

        private void spread(int cell) {
            int gave = 0;
            for (int direction = 0; direction < DIRECTIONS; direction++) {
                int other = beside(cell, direction);
                if (other != NONE && !walls[other]) {
                    nextMaybes[other] += maybes[cell];
                    gave++;
                }
            }
            nextMaybes[cell] += maybes[cell] * (SHARES - gave);
        }

        private static int beside(int cell, int direction) {
            int row = cell / SIDE;
            int column = cell % SIDE;
            switch (direction) {
                case 0:
                    return row > 0 ? cell - SIDE : NONE;
                case 1:
                    return row < SIDE - 1 ? cell + SIDE : NONE;
                case 2:
                    return column > 0 ? cell - 1 : NONE;
                default:
                    return column < SIDE - 1 ? cell + 1 : NONE;
            }
        }

        private long allMaybes() {
            long sum = 0L;
            for (int cell = 0; cell < CELLS; cell++) {
                sum += maybes[cell];
            }
            return sum;
        }

        private static long commonDivisor(long one, long other) {
            long larger = one;
            long smaller = other;
            for (int step = 0; step < DIVISOR_STEPS && smaller != 0L; step++) {
                long rest = larger % smaller;
                larger = smaller;
                smaller = rest;
            }
            return larger;
        }
    }
}
