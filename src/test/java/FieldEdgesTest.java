/** Promises 25 to 32: each sentence that names a boundary, by a test of its own. */
public final class FieldEdgesTest {
    private static final long FIVE_TO_THE_20TH = 95_367_431_640_625L;
    private static final Due due = new Due();

    public static void main(String[] args) throws ReflectiveOperationException {
        due.runEach(FieldEdgesTest.class);
    }

    private static BeastRoad awayAt(int cell) {
        BeastRoad road = Scene.withBeasts(3);
        road.away(1, cell);
        return road;
    }

    private static BeastRoad awayFor(int cell, int hours) {
        BeastRoad road = awayAt(cell);
        for (int hour = 1; hour <= hours; hour++) {
            due.is("hour()", road.hour(), hour);
        }
        return road;
    }

    private static long sum(BeastRoad road) {
        long sum = 0;
        for (int cell = 0; cell < 64; cell++) {
            sum += road.maybe(cell);
        }
        return sum;
    }

    // ---- Promise 25: wall

    static void p25NoSuchCell() {
        for (int cell : Due.outside(0, 63)) {
            due.denied("wall(" + cell + ", true)", () -> Scene.withBeasts(1), road -> road.wall(cell, true));
            due.denied("wall(" + cell + ", false)", () -> Scene.withBeasts(1), road -> road.wall(cell, false));
        }
    }

    static void p25FirstAndLastCell() {
        BeastRoad road = Scene.withBeasts(1);
        due.yes("wall(0, true)", road.wall(0, true));
        due.yes("wall(63, true)", road.wall(63, true));
        due.no("away at 0", road.away(0, 0));
        due.no("away at 63", road.away(0, 63));
    }

    static void p25ItIsAWall() {
        BeastRoad road = new BeastRoad();
        due.yes("wall(9, true)", road.wall(9, true));
        due.no("again", road.wall(9, true));
        due.yes("wall(9, false)", road.wall(9, false));
    }

    static void p25ItIsNoWall() {
        BeastRoad road = new BeastRoad();
        due.no("at first", road.wall(9, false));
        road.wall(9, true);
        road.wall(9, false);
        due.no("no more", road.wall(9, false));
        due.yes("again a wall", road.wall(9, true));
    }

    static void p25SomethingIsAway() {
        due.denied("wall(20, true)", Scene::full, road -> road.wall(20, true));
        due.denied("wall(9, false)", Scene::full, road -> road.wall(9, false));
        BeastRoad road = awayAt(0);
        due.no("wall(63, true)", road.wall(63, true));
        road.look(0);
        due.yes("found: wall(63, true)", road.wall(63, true));
    }

    static void p25RefusedWallsAreNone() {
        BeastRoad road = awayAt(0);
        road.wall(1, true);
        road.hour();
        due.is("maybe(1)", road.maybe(1), 1);
    }

    static void p25EveryCell() {
        BeastRoad road = Scene.withBeasts(1);
        for (int cell = 0; cell < 64; cell++) {
            due.yes("wall(" + cell + ", true)", road.wall(cell, true));
        }
        for (int cell = 0; cell < 64; cell++) {
            due.no("away(0, " + cell + ")", road.away(0, cell));
        }
        due.yes("wall(35, false)", road.wall(35, false));
        due.yes("away(0, 35)", road.away(0, 35));
        road.hour();
        due.is("it keeps all", road.maybe(35), 5);
    }

    // ---- Promise 26: away

    static void p26NoSuchBeast() {
        for (int beast : Due.outside(0, 2)) {
            due.denied("away(" + beast + ", 0)", () -> Scene.withBeasts(3), road -> road.away(beast, 0));
        }
        due.no("no beasts at all", new BeastRoad().away(0, 0));
    }

    static void p26FirstAndLastBeast() {
        BeastRoad road = Scene.withBeasts(40);
        due.yes("beast 0", road.away(0, 5));
        due.is("count(7)", road.count(7), 0);
        road.look(5);
        due.yes("beast 39", road.away(39, 5));
        due.is("count(7)", road.count(7), 39);
    }

    static void p26NoSuchCell() {
        for (int cell : Due.outside(0, 63)) {
            due.denied("away(0, " + cell + ")", () -> Scene.withBeasts(3), road -> road.away(0, cell));
        }
    }

    static void p26OneThereAndNoneInAllOthers() {
        for (int at = 0; at < 64; at++) {
            BeastRoad road = awayAt(at);
            for (int cell = 0; cell < 64; cell++) {
                due.is("maybe(" + cell + ")", road.maybe(cell), cell == at ? 1 : 0);
            }
        }
    }

    static void p26AWall() {
        for (int cell = 0; cell < 64; cell++) {
            BeastRoad road = Scene.withBeasts(1);
            road.wall(cell, true);
            due.no("away at a wall", road.away(0, cell));
            due.is("nothing is away", road.count(7), -1);
            due.yes("beside it", road.away(0, (cell + 1) % 64));
        }
    }

    static void p26OneIsAwayAlready() {
        due.denied("another", Scene::full, road -> road.away(2, 40));
        due.denied("the same", Scene::full, road -> road.away(3, 10));
        due.denied("beast 0 away, then 1", FieldEdgesTest::firstBeastAway, road -> road.away(1, 1));
    }

    private static BeastRoad firstBeastAway() {
        BeastRoad road = Scene.withBeasts(2);
        road.away(0, 0);
        return road;
    }

    static void p26AwayAgainAllIsAnew() {
        BeastRoad road = awayFor(0, 3);
        for (int cell = 0; cell < 64; cell++) {
            road.look(cell);
        }
        due.is("found", road.count(7), -1);
        due.yes("the same again", road.away(1, 63));
        due.is("hours", road.count(8), 0);
        due.is("there", road.maybe(63), 1);
        due.is("all", sum(road), 1);
    }

    static void p26AGoneBeast() {
        BeastRoad road = Scene.withBeasts(1);
        road.gone(0, 0);
        due.yes("there is such a beast", road.away(0, 0));
    }

    // ---- Promise 27: hour

    static void p27NothingIsAway() {
        due.refused("hour()", () -> Scene.withBeasts(1), BeastRoad::hour);
        BeastRoad road = awayFor(0, 1);
        road.look(0);
        road.look(1);
        due.is("found", road.look(8), 2);
        due.is("hour()", road.hour(), -1);
        due.is("HOURS stay", road.count(8), 1);
    }

    static void p27TheLastOf20() {
        BeastRoad road = awayFor(27, 19);
        due.is("hour()", road.hour(), 20);
        due.is("HOURS", road.count(8), 20);
        due.is("all", sum(road), FIVE_TO_THE_20TH);
    }

    static void p27TwentyWentBy() {
        due.refused("hour()", () -> awayFor(27, 20), BeastRoad::hour);
        BeastRoad road = awayFor(27, 20);
        due.is("hour()", road.hour(), -1);
        due.is("hour() again", road.hour(), -1);
    }

    static void p27TwentyForEachBeastThatGotAway() {
        BeastRoad road = awayFor(0, 20);
        for (int cell = 0; cell < 64; cell++) {
            road.look(cell);
        }
        due.is("HOURS stay", road.count(8), 20);
        road.away(0, 0);
        for (int hour = 1; hour <= 20; hour++) {
            due.is("hour()", road.hour(), hour);
        }
        due.is("hour()", road.hour(), -1);
    }

    static void p27EachCellGivesToThoseBesideIt() {
        for (int at = 0; at < 64; at++) {
            BeastRoad road = awayFor(at, 1);
            int gave = 0;
            for (int cell = 0; cell < 64; cell++) {
                if (stepsBetween(at, cell) == 1) {
                    gave++;
                    due.is("beside " + at + ": " + cell, road.maybe(cell), 1);
                } else if (cell != at) {
                    due.is("not beside " + at + ": " + cell, road.maybe(cell), 0);
                }
            }
            due.is("kept", road.maybe(at), 5 - gave);
        }
    }

    private static int stepsBetween(int one, int other) {
        return Math.abs(one / 8 - other / 8) + Math.abs(one % 8 - other % 8);
    }

    static void p27NoWayAroundTheEdges() {
        int[][] ends = {{7, 8}, {8, 7}, {55, 56}, {56, 55}, {0, 7}, {7, 0}, {0, 56}, {56, 0}, {7, 63}, {63, 7}};
        for (int[] end : ends) {
            due.is(end[0] + " gives none to " + end[1], awayFor(end[0], 1).maybe(end[1]), 0);
        }
    }

    static void p27WallsGetNothing() {
        int[] beside = {19, 26, 28, 35};
        for (int walls = 0; walls < 16; walls++) {
            BeastRoad road = Scene.withBeasts(1);
            for (int i = 0; i < 4; i++) {
                if ((walls >> i & 1) != 0) {
                    road.wall(beside[i], true);
                }
            }
            road.away(0, 27);
            road.hour();
            for (int i = 0; i < 4; i++) {
                due.is("maybe(" + beside[i] + ")", road.maybe(beside[i]), 1 - (walls >> i & 1));
            }
            due.is("kept", road.maybe(27), 1 + Integer.bitCount(walls));
        }
    }

    static void p27ShutInByWallsAndEdges() {
        BeastRoad road = Scene.withBeasts(1);
        road.wall(62, true);
        road.wall(55, true);
        road.away(0, 63);
        for (int hour = 1; hour <= 20; hour++) {
            road.hour();
        }
        due.is("5 to the 20th", road.maybe(63), FIVE_TO_THE_20TH);
        due.is("chance", road.chance(63, 1), 1);
        due.is("look", road.look(63), 2);
    }

    // ---- Promise 28: look

    static void p28NothingIsAway() {
        for (int cell = 0; cell < 64; cell++) {
            due.is("look(" + cell + ")", Scene.withBeasts(1).look(cell), -1);
        }
        BeastRoad road = awayAt(5);
        road.look(5);
        due.is("found already", road.look(5), -1);
    }

    static void p28NoSuchCell() {
        for (int cell : Due.outside(0, 63)) {
            due.refused("look(" + cell + ")", Scene::full, road -> road.look(cell));
        }
    }

    static void p28ItIsFound() {
        for (int cell = 0; cell < 64; cell++) {
            BeastRoad road = awayAt(cell);
            due.is("look", road.look(cell), 2);
            due.is("away no more", road.count(7), -1);
            due.is("maybe", road.maybe(cell), -1);
        }
    }

    static void p28AMaybeAbove0AndOthers() {
        BeastRoad road = awayFor(0, 1);
        due.is("look(0)", road.look(0), 1);
        due.is("maybe(0)", road.maybe(0), 0);
        due.is("it is away still", road.count(7), 1);
        due.is("look(8)", road.look(8), 1);
        due.is("all others are 0: look(1)", road.look(1), 2);
    }

    static void p28AMaybeOf0() {
        BeastRoad road = awayFor(0, 1);
        due.is("look(9)", road.look(9), 0);
        due.is("look(63)", road.look(63), 0);
        road.look(0);
        due.is("again at 0", road.look(0), 0);
        due.is("it is away still", road.count(7), 1);
        due.is("all", sum(road), 2);
    }

    /** All but one are 0, and a cell that is 0 is looked at: it is not found by that. */
    static void p28AMaybeOf0WhereOneIsLeft() {
        BeastRoad road = awayAt(0);
        due.is("look(1)", road.look(1), 0);
        due.is("it is away still", road.count(7), 1);
        due.is("look(0)", road.look(0), 2);
    }

    static void p28AWall() {
        BeastRoad road = Scene.withBeasts(1);
        road.wall(1, true);
        road.away(0, 0);
        road.hour();
        due.is("look(1)", road.look(1), 0);
    }

    static void p28TheOneThatIsLeftMayBeAnyCell() {
        for (int left : new int[] {0, 7, 27, 56, 63}) {
            BeastRoad road = awayFor(27, 20);
            for (int cell = 0; cell < 64; cell++) {
                if (cell != left) {
                    due.is("look(" + cell + ")", road.look(cell), 1);
                }
            }
            due.is("look(" + left + ")", road.look(left), 2);
        }
    }

    static void p28LookingTakesNoHour() {
        BeastRoad road = awayFor(0, 2);
        road.look(0);
        road.look(63);
        due.is("HOURS", road.count(8), 2);
        due.is("hour()", road.hour(), 3);
    }

    // ---- Promise 29: maybe

    static void p29NothingIsAway() {
        BeastRoad road = awayAt(5);
        road.look(5);
        for (int cell = 0; cell < 64; cell++) {
            due.is("maybe(" + cell + ")", road.maybe(cell), -1);
        }
    }

    static void p29NoSuchCell() {
        BeastRoad road = Scene.full();
        for (int cell : Due.outside(0, 63)) {
            due.is("maybe(" + cell + ")", road.maybe(cell), -1);
        }
    }

    static void p29AWall() {
        BeastRoad road = Scene.withBeasts(1);
        road.wall(1, true);
        road.away(0, 0);
        due.is("maybe(1)", road.maybe(1), 0);
        road.hour();
        due.is("maybe(1)", road.maybe(1), 0);
    }

    static void p29BeyondAnInt() {
        BeastRoad road = awayFor(0, 20);
        due.yes("maybe(0) is " + road.maybe(0), road.maybe(0) > Integer.MAX_VALUE);
        due.is("all", sum(road), FIVE_TO_THE_20TH);
    }

    // ---- Promise 30: chance

    static void p30NothingIsAway() {
        BeastRoad road = awayAt(5);
        road.look(5);
        for (int cell = 0; cell < 64; cell++) {
            due.is("chance(" + cell + ", 0)", road.chance(cell, 0), -1);
            due.is("chance(" + cell + ", 1)", road.chance(cell, 1), -1);
        }
        due.is("on a new object", new BeastRoad().chance(0, 1), -1);
    }

    static void p30NoSuchCell() {
        BeastRoad road = Scene.full();
        for (int cell : Due.outside(0, 63)) {
            due.is("chance(" + cell + ", 0)", road.chance(cell, 0), -1);
            due.is("chance(" + cell + ", 1)", road.chance(cell, 1), -1);
        }
    }

    static void p30NoSuchWhat() {
        BeastRoad road = awayAt(0);
        for (int what : Due.outside(0, 1)) {
            due.is("chance(0, " + what + ")", road.chance(0, what), -1);
            due.is("chance(1, " + what + ")", road.chance(1, what), -1);
        }
    }

    static void p30Of0() {
        BeastRoad road = awayFor(0, 2);
        due.is("numerator", road.chance(63, 0), 0);
        due.is("denominator", road.chance(63, 1), 1);
        due.is("looked at", road.look(0), 1);
        due.is("numerator", road.chance(0, 0), 0);
        due.is("denominator", road.chance(0, 1), 1);
    }

    static void p30OfAll() {
        BeastRoad road = awayAt(63);
        due.is("numerator", road.chance(63, 0), 1);
        due.is("denominator", road.chance(63, 1), 1);
    }

    static void p30LowestTerms() {
        BeastRoad road = awayFor(0, 2);
        due.is("maybe(1)", road.maybe(1), 5);
        due.is("5 of 25", road.chance(1, 0), 1);
        due.is("5 of 25", road.chance(1, 1), 5);
        due.is("11 of 25", road.chance(0, 0), 11);
        due.is("11 of 25", road.chance(0, 1), 25);
    }

    static void p30BeyondAnInt() {
        BeastRoad road = awayFor(0, 20);
        for (int cell = 0; cell < 64; cell++) {
            long above = road.chance(cell, 0);
            long below = road.chance(cell, 1);
            long common = FIVE_TO_THE_20TH / below;
            due.is("the same as maybe", above * common, road.maybe(cell));
            due.is("the same as all", below * common, FIVE_TO_THE_20TH);
            due.yes("lowest terms", below % 5 != 0 || above % 5 != 0);
        }
    }

    // ---- Promise 31: where

    static void p31NothingIsAway() {
        due.is("at first", Scene.withBeasts(1).where(), -1);
        BeastRoad road = awayAt(5);
        road.look(5);
        due.is("found", road.where(), -1);
    }

    static void p31EachCell() {
        for (int cell = 0; cell < 64; cell++) {
            due.is("where()", awayAt(cell).where(), cell);
        }
    }

    static void p31OfSeveralTheLowest() {
        BeastRoad road = awayFor(27, 1);
        for (int cell : new int[] {19, 26, 27, 28}) {
            due.is("where()", road.where(), cell);
            due.is("look", road.look(cell), 1);
        }
        due.is("the last", road.where(), 35);
    }

    static void p31TheGreatestThoughNotTheLowest() {
        BeastRoad road = awayFor(63, 1);
        due.is("maybe(55)", road.maybe(55), 1);
        due.is("maybe(63)", road.maybe(63), 3);
        due.is("where()", road.where(), 63);
    }

    static void p31GreatestByMoreThanAnIntTells() {
        BeastRoad road = awayFor(0, 20);
        int where = road.where();
        for (int cell = 0; cell < 64; cell++) {
            due.yes("maybe(" + cell + ")", road.maybe(cell) < road.maybe(where) || cell >= where);
            due.yes("maybe(" + cell + ")", road.maybe(cell) <= road.maybe(where));
        }
    }

    // ---- Promise 32: count

    static void p32NoSuchWhat() {
        BeastRoad road = Scene.full();
        for (int what : Due.outside(0, 9)) {
            due.is("count(" + what + ")", road.count(what), -1);
        }
    }

    static void p32EachOne() {
        BeastRoad road = Scene.full();
        int[] counts = {3, 7, 5, 4, 623, 3, 10, 3, 2, 6};
        for (int what = 0; what < counts.length; what++) {
            due.is("count(" + what + ")", road.count(what), counts[what]);
        }
    }

    static void p32NowAtItsLast() {
        due.is("NOW", Scene.onDay(400).count(0), 400);
    }

    static void p32HereNowAsKnownNow() {
        BeastRoad road = Scene.withBeasts(2);
        road.day();
        due.is("two", road.count(2), 2);
        road.gone(0, 1);
        due.is("one", road.count(2), 1);
        road.gone(1, 0);
        due.is("none", road.count(2), 0);
        due.is("told are two still", road.count(1), 2);
        road.gone(0, BeastRoad.NONE);
        due.is("one", road.count(2), 1);
    }

    static void p32UnitsBookedInAll() {
        BeastRoad road = Scene.withBeasts(40);
        road.kind(0, 100, 1);
        for (int day = 0; day < 100; day++) {
            road.day();
        }
        due.is("100 times 4,000", road.count(4), 400_000);
        for (int beast = 0; beast < 40; beast++) {
            road.gone(beast, 0);
        }
        road.day();
        due.is("none of it", road.count(4), 0);
    }

    static void p32TheBeastThatIsAway() {
        BeastRoad road = firstBeastAway();
        due.is("beast 0", road.count(7), 0);
        road.look(0);
        due.is("none", road.count(7), -1);
    }

    static void p32BeastsInWagons() {
        BeastRoad road = Scene.withBeasts(40);
        for (int beast = 0; beast < 40; beast++) {
            due.is("in wagons", road.count(9), beast);
            road.load(beast, beast % 8);
        }
        due.is("all", road.count(9), 40);
        road.gone(0, 0);
        due.is("a gone one is in its wagon still", road.count(9), 40);
        road.load(0, BeastRoad.NONE);
        due.is("39", road.count(9), 39);
    }
}
