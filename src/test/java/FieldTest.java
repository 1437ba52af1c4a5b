/** Promises 25 to 32: walls, the beast that got away, the search; and the counts. */
public final class FieldTest {
    private static final Due due = new Due();

    public static void main(String[] args) {
        walls();
        gettingAway();
        hoursInTheMiddle();
        edges();
        hourLimit();
        shutIn();
        looking();
        awayAgain();
        chances();
        likeliest();
        counts();
        due.end();
    }

    private static BeastRoad withBeasts(int beasts) {
        BeastRoad road = new BeastRoad();
        for (int i = 0; i < beasts; i++) {
            road.beast(0, 0);
        }
        return road;
    }

    // Promise 25
    private static void walls() {
        BeastRoad road = withBeasts(1);
        due.no("cell -1", road.wall(-1, true));
        due.no("cell 64", road.wall(64, true));
        due.no("it is so", road.wall(5, false));
        due.yes("a wall", road.wall(5, true));
        due.no("it is so", road.wall(5, true));
        due.yes("cell 63", road.wall(63, true));
        due.yes("no wall", road.wall(63, false));
        due.no("away at a wall", road.away(0, 5));
        due.yes("away", road.away(0, 63));
        due.no("something is away", road.wall(6, true));
        due.no("something is away", road.wall(5, false));
        due.is("found", road.look(63), 2);
        due.no("the wall stands still", road.wall(5, true));
        due.yes("no wall", road.wall(5, false));
        due.yes("away there", road.away(0, 5));
    }

    // Promise 26
    private static void gettingAway() {
        BeastRoad road = withBeasts(2);
        due.no("beast 2", road.away(2, 0));
        due.no("beast -1", road.away(-1, 0));
        due.no("cell -1", road.away(0, -1));
        due.no("cell 64", road.away(0, 64));
        due.is("nothing away", road.count(7), -1);
        due.is("maybe", road.maybe(0), -1);
        due.is("chance", road.chance(0, 0), -1);
        due.is("look", road.look(0), -1);
        due.is("where", road.where(), -1);
        due.is("hour", road.hour(), -1);
        due.yes("away", road.away(1, 40));
        due.is("which", road.count(7), 1);
        due.no("one is away", road.away(0, 3));
        due.no("one is away", road.away(1, 40));
        for (int cell = 0; cell < 64; cell++) {
            due.is("maybe " + cell, road.maybe(cell), cell == 40 ? 1 : 0);
        }
        due.is("where", road.where(), 40);
        due.is("it is here still", road.count(2), 2);
    }

    // Promises 27 and 29
    private static void hoursInTheMiddle() {
        BeastRoad road = withBeasts(1);
        road.away(0, 27);
        due.is("first", road.hour(), 1);
        int[] cells = {27, 26, 28, 19, 35, 18};
        int[] first = {1, 1, 1, 1, 1, 0};
        for (int i = 0; i < cells.length; i++) {
            due.is("maybe " + cells[i], road.maybe(cells[i]), first[i]);
        }
        due.is("second", road.hour(), 2);
        int[] second = {5, 2, 2, 2, 2, 2};
        for (int i = 0; i < cells.length; i++) {
            due.is("maybe " + cells[i], road.maybe(cells[i]), second[i]);
        }
        due.is("two steps", road.maybe(25), 1);
        due.is("two steps", road.maybe(43), 1);
        due.is("three steps", road.maybe(24), 0);
        due.is("hours", road.count(8), 2);
        due.is("cell 64", road.maybe(64), -1);
        due.is("cell -1", road.maybe(-1), -1);
    }

    private static void edges() {
        int[] corners = {0, 7, 56, 63};
        int[][] beside = {{1, 8}, {6, 15}, {48, 57}, {55, 62}};
        for (int i = 0; i < corners.length; i++) {
            BeastRoad road = withBeasts(1);
            road.away(0, corners[i]);
            road.hour();
            due.is("corner", road.maybe(corners[i]), 3);
            due.is("beside", road.maybe(beside[i][0]), 1);
            due.is("beside", road.maybe(beside[i][1]), 1);
            due.is("all", sum(road), 5);
        }
        BeastRoad road = withBeasts(1);
        road.away(0, 15);
        road.hour();
        due.is("the right edge", road.maybe(15), 2);
        due.is("no step into the next row", road.maybe(16), 0);
        due.is("left of it", road.maybe(14), 1);
        BeastRoad left = withBeasts(1);
        left.away(0, 16);
        left.hour();
        due.is("the left edge", left.maybe(16), 2);
        due.is("no step into the row ahead", left.maybe(15), 0);
    }

    private static void hourLimit() {
        BeastRoad road = withBeasts(1);
        road.away(0, 0);
        long all = 1;
        for (int hour = 1; hour <= 20; hour++) {
            due.is("hour", road.hour(), hour);
            all *= 5;
        }
        due.is("all", sum(road), all);
        long[] before = maybes(road);
        due.is("a 21st", road.hour(), -1);
        for (int cell = 0; cell < 64; cell++) {
            due.is("as it was", road.maybe(cell), before[cell]);
        }
        due.is("hours", road.count(8), 20);
    }

    private static void shutIn() {
        BeastRoad road = withBeasts(1);
        road.wall(1, true);
        road.wall(8, true);
        road.away(0, 0);
        for (int hour = 1; hour <= 20; hour++) {
            road.hour();
        }
        due.is("all stays", road.maybe(0), 95_367_431_640_625L);
        due.is("a wall gets none", road.maybe(1), 0);
        due.is("a wall gets none", road.maybe(8), 0);
        due.is("found", road.look(0), 2);
    }

    // Promise 28
    private static void looking() {
        BeastRoad road = withBeasts(1);
        road.wall(26, true);
        road.away(0, 27);
        due.is("cell -1", road.look(-1), -1);
        due.is("cell 64", road.look(64), -1);
        due.is("not there", road.look(0), 0);
        road.hour();
        due.is("a wall", road.look(26), 0);
        due.is("it may be there", road.look(27), 1);
        due.is("no more", road.maybe(27), 0);
        due.is("again", road.look(27), 0);
        road.hour();
        due.is("what the three gave", road.maybe(27), 3);
        due.is("the one above", road.maybe(19), 1);
        due.is("all", sum(road), 15);
        for (int cell = 0; cell < 63; cell++) {
            if (cell != 35) {
                road.look(cell);
            }
        }
        due.is("the last", road.maybe(35), 1);
        due.is("found", road.look(35), 2);
        due.is("away no more", road.count(7), -1);
        due.is("look", road.look(35), -1);
        due.is("maybe", road.maybe(35), -1);
        due.is("chance", road.chance(35, 0), -1);
        due.is("where", road.where(), -1);
        due.is("hour", road.hour(), -1);
        due.is("hours that went by", road.count(8), 2);
    }

    private static void awayAgain() {
        BeastRoad road = withBeasts(3);
        road.away(2, 9);
        for (int hour = 1; hour <= 20; hour++) {
            road.hour();
        }
        for (int cell = 0; cell < 64; cell++) {
            due.is("look", road.look(cell), cell < 63 ? 1 : 2);
        }
        due.yes("another", road.away(1, 50));
        due.is("which", road.count(7), 1);
        due.is("hours anew", road.count(8), 0);
        due.is("maybes anew", sum(road), 1);
        due.is("there", road.maybe(50), 1);
        due.is("the first hour", road.hour(), 1);
    }

    // Promise 30
    private static void chances() {
        BeastRoad road = withBeasts(1);
        road.away(0, 0);
        due.is("whole", road.chance(0, 0), 1);
        due.is("whole", road.chance(0, 1), 1);
        due.is("none", road.chance(1, 0), 0);
        due.is("none", road.chance(1, 1), 1);
        road.hour();
        road.hour();
        due.is("0: 11 of 25", road.chance(0, 0), 11);
        due.is("0: 11 of 25", road.chance(0, 1), 25);
        due.is("1: 5 of 25", road.chance(1, 0), 1);
        due.is("1: 5 of 25", road.chance(1, 1), 5);
        road.look(0);
        due.is("1: 5 of 14", road.chance(1, 0), 5);
        due.is("1: 5 of 14", road.chance(1, 1), 14);
        due.is("9: 2 of 14", road.chance(9, 0), 1);
        due.is("9: 2 of 14", road.chance(9, 1), 7);
        due.is("looked at", road.chance(0, 0), 0);
        due.is("looked at", road.chance(0, 1), 1);
        due.is("what 2", road.chance(0, 2), -1);
        due.is("what -1", road.chance(0, -1), -1);
        due.is("cell 64", road.chance(64, 0), -1);
        due.is("cell -1", road.chance(-1, 1), -1);
    }

    // Promise 31
    private static void likeliest() {
        BeastRoad road = withBeasts(1);
        road.away(0, 27);
        road.hour();
        due.is("the lowest of five", road.where(), 19);
        road.look(19);
        due.is("the next", road.where(), 26);
        road.hour();
        due.is("the greatest", road.where(), 27);
        road.look(27);
        due.is("maybe", road.maybe(26), 2);
        due.is("as much", road.maybe(34), 2);
        due.is("where", road.where(), 26);
        for (int cell = 0; cell < 64; cell++) {
            BeastRoad other = withBeasts(1);
            other.away(0, cell);
            due.is("where it got away", other.where(), cell);
        }
    }

    // Promise 32
    private static void counts() {
        BeastRoad road = withBeasts(3);
        road.kind(0, 7, 2);
        road.day();
        road.gone(1, 1);
        road.load(2, 5);
        road.load(0, 5);
        road.town(1, 2, 3);
        Due.feedText(road, "no 1;");
        road.away(2, 8);
        road.hour();
        int[] counts = {1, 3, 2, 1, 21, 1, 5, 2, 1, 2};
        for (int what = 0; what < counts.length; what++) {
            due.is("count(" + what + ")", road.count(what), counts[what]);
        }
        due.is("count(10)", road.count(10), -1);
        due.is("count(-1)", road.count(-1), -1);
        due.is("count(most)", road.count(Integer.MAX_VALUE), -1);
    }

    private static long sum(BeastRoad road) {
        long sum = 0;
        for (long maybe : maybes(road)) {
            sum += maybe;
        }
        return sum;
    }

    private static long[] maybes(BeastRoad road) {
        long[] maybes = new long[64];
        for (int cell = 0; cell < 64; cell++) {
            maybes[cell] = road.maybe(cell);
        }
        return maybes;
    }
}
