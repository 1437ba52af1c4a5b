import java.util.Random;

/** All promises: runs of random calls, the same each time, on the program and on PlainRoad. */
public final class RandomRunsTest {
    private static final Due due = new Due();
    private static final int RUNS = 400;
    private static final int CALLS = 512;
    // Each run keeps to the methods of some of the document's parts, so that it gets deep into them.
    private static final int[][] PARTS = {{0, 8}, {0, 12}, {13, 17}, {0, 23}, {18, 23}, {24, 30}, {0, 30}, {9, 12}};
    private static final String[] WORDS = {"no ", "most ", "fee ", "per ", "from ", "to ", ";", ";", ";", " ", "3", "12",
        "no 1", "no 2;", "fee 7;", "per 2;", "from 6;", "to 18;", "most 3;", "99999", "x", "no"};

    private final Random random;
    private final BeastRoad road = new BeastRoad();
    private final PlainRoad plain = new PlainRoad();
    private final String name;
    private int left = CALLS;

    private RandomRunsTest(int run) {
        random = new Random(run);
        name = "run " + run + ": ";
    }

    public static void main(String[] args) {
        for (int run = 0; run < RUNS; run++) {
            new RandomRunsTest(run).go(PARTS[run % PARTS.length]);
        }
        due.end();
    }

    private void go(int[] part) {
        prepare();
        while (left > 0) {
            call(part[0] + random.nextInt(part[1] - part[0] + 1));
            if (random.nextInt(3) == 0) {
                call(31);
            }
        }
    }

    /** Some beasts and towns, or nearly none. */
    private void prepare() {
        int beasts = random.nextInt(12);
        for (int i = 0; i < beasts; i++) {
            call(1);
        }
        int towns = random.nextInt(10);
        for (int i = 0; i < towns; i++) {
            call(13);
        }
    }

    private int number(int least, int most) {
        if (random.nextInt(200) == 0) {
            return random.nextBoolean() ? Integer.MAX_VALUE : Integer.MIN_VALUE;
        }
        if (random.nextInt(40) == 0) {
            return random.nextBoolean() ? least - 1 : most + 1;
        }
        return least + random.nextInt(most - least + 1);
    }

    private int day() {
        return number(0, plain.count(0));
    }

    private int aBeast() {
        return number(0, Math.max(plain.count(1) - 1, 0));
    }

    private int aTown() {
        return number(0, Math.max(plain.count(5) - 1, 0));
    }

    private int tourDay() {
        return random.nextInt(4) == 0 ? number(0, 1000) : number(0, 40);
    }

    private void is(String call, long got, long want) {
        left--;
        due.is(name + call, got, want);
    }

    private void is(String call, boolean got, boolean want) {
        is(call, got ? 1L : 0L, want ? 1L : 0L);
    }

    private void call(int which) {
        if (left <= 0) {
            return;
        }
        if (which < 9) {
            callDays(which);
        } else if (which < 18) {
            callWagonsAndFairs(which);
        } else if (which < 24) {
            callLaws(which);
        } else {
            callField(which);
        }
    }

    private void callDays(int which) {
        int beast = aBeast();
        int day = day();
        int q = day();
        int kind = number(0, 7);
        int feed = number(0, 100);
        int weight = random.nextBoolean() ? number(1, 1000) : number(1, 300);
        int from = random.nextInt(4) == 0 ? -1 : day;
        int i = number(0, Math.max(plain.count(3) - 1, 0));
        int what = number(0, 2);
        switch (which) {
            case 0 -> is("kind", road.kind(kind, feed, weight), plain.kind(kind, feed, weight));
            case 1 -> is("beast", road.beast(kind, day), plain.beast(kind, day));
            case 2 -> is("gone", road.gone(beast, from), plain.gone(beast, from));
            case 3 -> is("here", road.here(beast, day, q), plain.here(beast, day, q));
            case 4 -> is("ration", road.ration(day, q), plain.ration(day, q));
            case 5, 6 -> is("day", road.day(), plain.day());
            case 7 -> is("line", road.line(i, what), plain.line(i, what));
            default -> is("booked", road.booked(day), plain.booked(day));
        }
    }

    private void callWagonsAndFairs(int which) {
        int beast = aBeast();
        int wagon = number(0, 7) - random.nextInt(10) / 9;
        int one = number(0, 7);
        int other = number(0, 7);
        boolean is = random.nextInt(4) > 0;
        int what = number(0, 2);
        int first = tourDay();
        int last = first + random.nextInt(60) - random.nextInt(20) / 19;
        int brings = random.nextInt(3) == 0 ? number(0, 10_000) : 10 * number(0, 3);
        int days = random.nextBoolean() ? number(1, 60) : number(1, 9);
        int coins = random.nextInt(3) == 0 ? number(0, 1000) : number(0, 3);
        int town = aTown();
        int day = random.nextBoolean() ? 0 : tourDay();
        int i = number(0, 7);
        switch (which) {
            case 9 -> is("load", road.load(beast, wagon), plain.load(beast, wagon));
            case 10 -> is("bar", road.bar(one, other, is), plain.bar(one, other, is));
            case 11 -> is("wagon", road.wagon(wagon, what), plain.wagon(wagon, what));
            case 12 -> is("order", road.order(i), plain.order(i));
            case 13 -> is("town", road.town(first, last, brings), plain.town(first, last, brings));
            case 14 -> is("way", road.way(one, other, days), plain.way(one, other, days));
            case 15 -> is("fodder", road.fodder(coins), plain.fodder(coins));
            case 16 -> is("tour", road.tour(town, day), plain.tour(town, day));
            default -> stops(town, day);
        }
    }

    private void stops(int town, int day) {
        for (int i = 0; i < 4; i++) {
            int place = number(0, 7);
            is("stop", road.stop(town, day, place), plain.stop(town, day, place));
        }
    }

    private void callLaws(int which) {
        int town = aTown();
        int hour = number(0, 23);
        int n = random.nextInt(3) == 0 ? 0 : number(0, plain.count(6));
        switch (which) {
            case 18 -> feed();
            case 19 -> is("end", road.end(n), plain.end(n));
            case 20 -> is("fault", road.fault(), plain.fault());
            case 21 -> is("law", road.law(town), plain.law(town));
            case 22 -> is("may", road.may(town, hour), plain.may(town, hour));
            default -> is("fee", road.fee(town), plain.fee(town));
        }
    }

    private void feed() {
        int[] numbers = new int[5];
        StringBuilder text = new StringBuilder();
        while (text.length() < 20 && random.nextInt(5) > 0) {
            text.append(WORDS[random.nextInt(WORDS.length)]);
        }
        for (int i = 0; i < 20; i++) {
            int next = i < text.length() ? text.charAt(i) : 0;
            numbers[i / 4] = numbers[i / 4] << 8 | (random.nextInt(300) == 0 ? random.nextInt(256) : next);
        }
        is("feed " + text, road.feed(numbers[0], numbers[1], numbers[2], numbers[3], numbers[4]),
                plain.feed(numbers[0], numbers[1], numbers[2], numbers[3], numbers[4]));
    }

    private void callField(int which) {
        int cell = number(0, 63);
        boolean is = random.nextInt(4) > 0;
        int beast = aBeast();
        int what = number(0, 1);
        int looked = random.nextInt(3) == 0 && plain.where() >= 0 ? plain.where() : cell;
        int counted = number(0, 9);
        switch (which) {
            case 24 -> is("wall", road.wall(cell, is), plain.wall(cell, is));
            case 25 -> is("away", road.away(beast, cell), plain.away(beast, cell));
            case 26 -> is("hour", road.hour(), plain.hour());
            case 27 -> is("look", road.look(looked), plain.look(looked));
            case 28 -> is("maybe", road.maybe(looked), plain.maybe(looked));
            case 29 -> is("chance", road.chance(looked, what), plain.chance(looked, what));
            case 30 -> is("where", road.where(), plain.where());
            default -> is("count", road.count(counted), plain.count(counted));
        }
    }
}
