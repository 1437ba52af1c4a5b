import java.util.Arrays;

/** Promises 1 to 9: each sentence that names a boundary, by a test of its own. */
public final class DaysEdgesTest {
    private static final int NO_ENTRY = -1_000_000;
    private static final Due due = new Due();

    public static void main(String[] args) throws ReflectiveOperationException {
        due.runEach(DaysEdgesTest.class);
    }

    // ---- Promise 1: a new object

    static void p01NothingIsTold() {
        BeastRoad road = new BeastRoad();
        int[] counts = {0, 0, 0, 0, 0, 0, 0, BeastRoad.NONE, 0, 0};
        for (int what = 0; what < counts.length; what++) {
            due.is("count(" + what + ")", road.count(what), counts[what]);
        }
        due.is("ration(0, 0)", road.ration(0, 0), 0);
        due.is("line(0, 0)", road.line(0, 0), NO_ENTRY);
        due.is("fault()", road.fault(), -1);
    }

    static void p01FeedAndWeightAreOne() {
        for (int kind = 0; kind < 8; kind++) {
            BeastRoad road = new BeastRoad();
            road.beast(kind, 0);
            road.load(0, 0);
            due.is("FEED of " + kind, road.ration(0, 0), 1);
            due.is("WEIGHT of " + kind, road.wagon(0, 0), 1);
        }
    }

    static void p01NothingIsBooked() {
        BeastRoad road = new BeastRoad();
        for (int day = 0; day <= 400; day++) {
            due.is("booked(" + day + ")", road.booked(day), 0);
        }
    }

    static void p01WagonsAreEmpty() {
        BeastRoad road = new BeastRoad();
        for (int wagon = 0; wagon < 8; wagon++) {
            due.is("WEIGHT", road.wagon(wagon, 0), 0);
            due.is("BEASTS", road.wagon(wagon, 1), 0);
            due.is("SOUND", road.wagon(wagon, 2), 1);
            due.is("order", road.order(wagon), -1);
        }
    }

    static void p01NoKindsBar() {
        BeastRoad road = new BeastRoad();
        for (int one = 0; one < 8; one++) {
            for (int other = 0; other < 8; other++) {
                due.no("bar(" + one + ", " + other + ", false)", road.bar(one, other, false));
            }
        }
    }

    static void p01EachWayIsNine() {
        for (int one = 0; one < 8; one++) {
            for (int other = 0; other < 8; other++) {
                if (one != other) {
                    due.is("by 10", twoFairs(one, other, 10).tour(one, 0), 2);
                    due.is("by 9", twoFairs(one, other, 9).tour(one, 0), 1);
                }
            }
        }
    }

    /** Eight towns, of which two bring 1: one on day 0, the other on a later one. */
    private static BeastRoad twoFairs(int one, int other, int day) {
        BeastRoad road = new BeastRoad();
        for (int town = 0; town < 8; town++) {
            int fair = town == other ? day : 0;
            road.town(fair, fair, town == one || town == other ? 1 : 0);
        }
        return road;
    }

    static void p01FodderIsZero() {
        BeastRoad road = new BeastRoad();
        road.town(1000, 1000, 1);
        due.is("tour(0, 0)", road.tour(0, 0), 1);
    }

    static void p01LawsAreNone() {
        BeastRoad road = Scene.withBeasts(40);
        for (int town = 0; town < 8; town++) {
            road.town(0, 0, 0);
            due.is("fee(" + town + ")", road.fee(town), 0);
            for (int hour = 0; hour < 24; hour++) {
                due.is("may(" + town + ", " + hour + ")", road.may(town, hour), 0);
            }
        }
    }

    static void p01NoWalls() {
        BeastRoad road = new BeastRoad();
        for (int cell = 0; cell < 64; cell++) {
            due.no("wall(" + cell + ", false)", road.wall(cell, false));
        }
    }

    static void p01NothingIsAway() {
        BeastRoad road = new BeastRoad();
        due.is("count(7)", road.count(7), -1);
        due.is("where()", road.where(), -1);
        due.is("hour()", road.hour(), -1);
        for (int cell = 0; cell < 64; cell++) {
            due.is("maybe(" + cell + ")", road.maybe(cell), -1);
        }
    }

    static void p01ObjectsAreApart() {
        long[] alone = Scene.view(new BeastRoad());
        BeastRoad made = new BeastRoad();
        Scene.full();
        due.yes("a new one beside a full one is as new", Arrays.equals(Scene.view(made), alone));
        due.yes("one made behind it too", Arrays.equals(Scene.view(new BeastRoad()), alone));
    }

    // ---- Promise 2: kind

    static void p02NoSuchKind() {
        for (int kind : Due.outside(0, 7)) {
            due.denied("kind(" + kind + ", 1, 1)", Scene::full, road -> road.kind(kind, 1, 1));
        }
    }

    static void p02FirstAndLastKind() {
        BeastRoad road = new BeastRoad();
        road.beast(0, 0);
        road.beast(7, 0);
        due.yes("kind 0", road.kind(0, 3, 1));
        due.is("ration", road.ration(0, 0), 4);
        due.yes("kind 7", road.kind(7, 20, 1));
        due.is("ration", road.ration(0, 0), 23);
    }

    static void p02FeedOutOfBounds() {
        for (int feed : Due.outside(0, 100)) {
            due.denied("kind(0, " + feed + ", 1)", Scene::full, road -> road.kind(0, feed, 1));
        }
    }

    static void p02LeastAndMostFeed() {
        BeastRoad road = Scene.withBeasts(1);
        due.yes("100", road.kind(0, 100, 1));
        due.is("ration", road.ration(0, 0), 100);
        due.yes("0", road.kind(0, 0, 1));
        due.is("ration", road.ration(0, 0), 0);
    }

    static void p02WeightOutOfBounds() {
        for (int weight : Due.outside(1, 1000)) {
            due.denied("kind(0, 9, " + weight + ")", Scene::full, road -> road.kind(0, 9, weight));
        }
    }

    static void p02LeastAndMostWeight() {
        BeastRoad road = Scene.withBeasts(1);
        road.load(0, 0);
        due.yes("1,000", road.kind(0, 1, 1000));
        due.is("WEIGHT", road.wagon(0, 0), 1000);
        due.yes("1", road.kind(0, 1, 1));
        due.is("WEIGHT", road.wagon(0, 0), 1);
    }

    static void p02AWagonMayHold2000() {
        BeastRoad road = threeInWagon(0);
        road.kind(1, 1, 2);
        due.yes("3 times 666 and 2", road.kind(0, 1, 666));
        due.is("WEIGHT", road.wagon(0, 0), 2000);
        due.yes("told alike", road.kind(0, 1, 666));
    }

    static void p02AWagonWouldHold2001() {
        for (int wagon = 0; wagon < 8; wagon++) {
            int where = wagon;
            due.denied("kind(1, 9, 201), wagon " + wagon, () -> threeHeavyInWagon(where), road -> road.kind(1, 9, 201));
            due.yes("kind(1, 9, 200), wagon " + wagon, threeHeavyInWagon(where).kind(1, 9, 200));
        }
    }

    /** Three of kind 0 and one of kind 1 in a wagon. */
    private static BeastRoad threeInWagon(int wagon) {
        BeastRoad road = Scene.withBeasts(3);
        road.beast(1, 0);
        for (int beast = 0; beast < 4; beast++) {
            road.load(beast, wagon);
        }
        return road;
    }

    private static BeastRoad threeHeavyInWagon(int wagon) {
        BeastRoad road = threeInWagon(wagon);
        road.kind(0, 1, 600);
        return road;
    }

    static void p02EachBeastOfTheKindWeighs() {
        BeastRoad road = Scene.withBeasts(40);
        for (int beast = 0; beast < 40; beast++) {
            road.load(beast, 5);
        }
        due.no("40 times 51", road.kind(0, 1, 51));
        due.yes("40 times 50", road.kind(0, 1, 50));
        due.is("WEIGHT", road.wagon(5, 0), 2000);
    }

    static void p02BeastsInNoWagonWeighNothing() {
        BeastRoad road = Scene.withBeasts(40);
        due.yes("none in a wagon", road.kind(0, 1, 1000));
        road.load(0, 0);
        road.load(1, 0);
        road.load(2, 1);
        due.yes("two in one at most", road.kind(0, 2, 1000));
    }

    static void p02GoneBeastsInAWagonWeigh() {
        BeastRoad road = Scene.withBeasts(3);
        for (int beast = 0; beast < 3; beast++) {
            road.load(beast, 0);
            road.gone(beast, 0);
        }
        due.no("2,001", road.kind(0, 1, 667));
        due.yes("1,998", road.kind(0, 1, 666));
    }

    static void p02RefusedWeightLeavesFeed() {
        BeastRoad road = threeInWagon(0);
        road.kind(0, 7, 600);
        due.no("2,002", road.kind(0, 50, 667));
        due.is("FEED stays", road.ration(0, 0), 22);
        due.is("WEIGHT stays", road.wagon(0, 0), 1801);
    }

    // ---- Promise 3: beast

    static void p03NoSuchKind() {
        for (int kind : Due.outside(0, 7)) {
            due.refused("beast(" + kind + ", 0)", Scene::full, road -> road.beast(kind, 0));
        }
    }

    static void p03FirstAndLastKind() {
        BeastRoad road = new BeastRoad();
        road.kind(0, 3, 1);
        road.kind(7, 20, 1);
        due.is("kind 0", road.beast(0, 0), 0);
        due.is("its FEED", road.ration(0, 0), 3);
        due.is("kind 7", road.beast(7, 0), 1);
        due.is("its FEED", road.ration(0, 0), 23);
    }

    static void p03NoSuchDay() {
        for (int day : Due.outside(0, 3)) {
            due.refused("beast(0, " + day + ")", Scene::full, road -> road.beast(0, day));
        }
    }

    static void p03FirstDayAndNow() {
        BeastRoad road = Scene.onDay(3);
        due.is("from 0", road.beast(0, 0), 0);
        due.is("from 3", road.beast(0, 3), 1);
        due.is("RATION of 0", road.ration(0, 3), 1);
        due.is("RATION of 2", road.ration(2, 3), 1);
        due.is("RATION of 3", road.ration(3, 3), 2);
    }

    static void p03OnDay400() {
        BeastRoad road = Scene.onDay(400);
        due.is("from 401", road.beast(0, 401), -1);
        due.is("from 400", road.beast(0, 400), 0);
        due.yes("on 400", road.here(0, 400, 400));
        due.no("on 399", road.here(0, 399, 400));
    }

    static void p03TheLastOfForty() {
        BeastRoad road = Scene.withBeasts(39);
        due.is("the 40th", road.beast(3, 0), 39);
        due.is("40", road.count(1), 40);
        due.yes("it is there", road.here(39, 0, 0));
    }

    static void p03ThereAreForty() {
        due.refused("a 41st", () -> Scene.withBeasts(40), road -> road.beast(0, 0));
        due.refused("a 41st of kind 7", () -> Scene.withBeasts(40), road -> road.beast(7, 0));
    }

    static void p03GoneOnesAreAmongTheForty() {
        BeastRoad road = Scene.withBeasts(40);
        road.gone(0, 0);
        due.is("a 41st", road.beast(0, 0), -1);
    }

    static void p03RefusedOnesHaveNoNumber() {
        BeastRoad road = new BeastRoad();
        road.beast(8, 0);
        road.beast(0, 1);
        due.is("the first", road.beast(0, 0), 0);
    }

    // ---- Promise 4: gone

    static void p04NoSuchBeast() {
        for (int beast : Due.outside(0, 6)) {
            due.denied("gone(" + beast + ", 3)", Scene::full, road -> road.gone(beast, 3));
            due.denied("gone(" + beast + ", NONE)", Scene::full, road -> road.gone(beast, BeastRoad.NONE));
        }
        due.no("no beasts at all", new BeastRoad().gone(0, 0));
    }

    static void p04ADayAheadOfItsFirst() {
        due.denied("gone(6, 1)", Scene::full, road -> road.gone(6, 1));
        due.denied("gone(6, 0)", Scene::full, road -> road.gone(6, 0));
        due.denied("gone(5, 0)", Scene::full, road -> road.gone(5, 0));
    }

    static void p04ItsFirstDay() {
        BeastRoad road = Scene.full();
        due.yes("gone(6, 2)", road.gone(6, 2));
        due.no("on 2", road.here(6, 2, 3));
        due.no("on 3", road.here(6, 3, 3));
    }

    static void p04Now() {
        BeastRoad road = Scene.full();
        due.yes("gone(6, 3)", road.gone(6, 3));
        due.yes("on 2", road.here(6, 2, 3));
        due.no("on 3", road.here(6, 3, 3));
    }

    static void p04OnDay400() {
        BeastRoad road = Scene.onDay(400);
        road.beast(0, 0);
        due.no("gone(0, 401)", road.gone(0, 401));
        due.yes("gone(0, 400)", road.gone(0, 400));
        due.yes("on 399", road.here(0, 399, 400));
        due.no("on 400", road.here(0, 400, 400));
    }

    static void p04ADayBehindNow() {
        for (int day : new int[] {4, 5, 400, 65_536, Integer.MAX_VALUE}) {
            due.denied("gone(6, " + day + ")", Scene::full, road -> road.gone(6, day));
        }
    }

    static void p04NoneItIsNotGone() {
        BeastRoad road = Scene.full();
        due.no("gone from 1 on", road.here(1, 3, 3));
        due.yes("gone(1, NONE)", road.gone(1, BeastRoad.NONE));
        due.yes("on 3", road.here(1, 3, 3));
        due.yes("told of one that was not gone", road.gone(6, BeastRoad.NONE));
        due.yes("on 3", road.here(6, 3, 3));
    }

    static void p04BelowNone() {
        for (int day : new int[] {-2, -3, -65_536, Integer.MIN_VALUE, Integer.MIN_VALUE + 3}) {
            due.denied("gone(0, " + day + ")", Scene::full, road -> road.gone(0, day));
        }
    }

    static void p04ToldAnew() {
        BeastRoad road = Scene.onDay(3);
        road.beast(0, 0);
        road.gone(0, 1);
        due.yes("later", road.gone(0, 3));
        due.yes("on 2", road.here(0, 2, 3));
        due.yes("earlier", road.gone(0, 2));
        due.no("on 2", road.here(0, 2, 3));
        due.yes("alike", road.gone(0, 2));
        due.no("on 2", road.here(0, 2, 3));
    }

    static void p04TheLastOf200() {
        BeastRoad road = toldGone(199);
        due.yes("the 200th", road.gone(1, 0));
        due.no("it holds", road.here(1, 0, 0));
    }

    static void p04TwoHundredWereTold() {
        due.denied("gone(0, 0)", () -> toldGone(200), road -> road.gone(0, 0));
        due.denied("gone(1, 0)", () -> toldGone(200), road -> road.gone(1, 0));
        due.denied("gone(0, NONE)", () -> toldGone(200), road -> road.gone(0, BeastRoad.NONE));
    }

    /** So many tellings of beast 0, which is not gone behind an even number of them. */
    private static BeastRoad toldGone(int times) {
        BeastRoad road = Scene.withBeasts(2);
        for (int i = 0; i < times; i++) {
            road.gone(0, i % 2 == 0 ? 0 : BeastRoad.NONE);
        }
        return road;
    }

    static void p04RefusedOnesAreNotAmongThe200() {
        BeastRoad road = toldGone(199);
        for (int i = 0; i < 100; i++) {
            due.no("refused", road.gone(0, 1));
            due.no("refused", road.gone(2, 0));
        }
        due.yes("the 200th", road.gone(0, 0));
        due.no("a 201st", road.gone(0, BeastRoad.NONE));
    }

    // ---- Promise 5: here

    static void p05NoSuchBeast() {
        BeastRoad road = Scene.full();
        for (int beast : Due.outside(0, 6)) {
            due.no("here(" + beast + ", 3, 3)", road.here(beast, 3, 3));
        }
        due.no("no beasts at all", new BeastRoad().here(0, 0, 0));
        due.yes("the last", road.here(6, 3, 3));
    }

    static void p05NoSuchDay() {
        BeastRoad road = Scene.full();
        for (int day : Due.outside(0, 3)) {
            due.no("here(0, " + day + ", 3)", road.here(0, day, 3));
        }
        due.yes("day 0", road.here(0, 0, 3));
        due.yes("day NOW", road.here(0, 3, 3));
    }

    static void p05NoSuchQ() {
        BeastRoad road = Scene.full();
        for (int q : Due.outside(0, 3)) {
            due.no("here(0, 0, " + q + ")", road.here(0, 0, q));
        }
        due.yes("q 0", road.here(0, 0, 0));
        due.yes("q NOW", road.here(0, 0, 3));
    }

    static void p05TheDayOfItsFirst() {
        BeastRoad road = Scene.onDay(5);
        road.beast(0, 3);
        due.no("the day ahead", road.here(0, 2, 5));
        due.yes("its first", road.here(0, 3, 5));
        due.yes("the day behind", road.here(0, 4, 5));
    }

    static void p05TheDayFromWhichItIsGone() {
        BeastRoad road = Scene.onDay(5);
        road.beast(0, 1);
        road.gone(0, 3);
        due.yes("the day ahead", road.here(0, 2, 5));
        due.no("that day", road.here(0, 3, 5));
        due.no("the day behind", road.here(0, 4, 5));
    }

    static void p05GoneFromDay0() {
        BeastRoad road = Scene.withBeasts(1);
        road.gone(0, 0);
        due.no("day 0", road.here(0, 0, 0));
    }

    static void p05TheDayOnWhichItWasTold() {
        BeastRoad road = Scene.onDay(2);
        road.beast(0, 0);
        road.day();
        due.no("as known in 1", road.here(0, 0, 1));
        due.yes("as known in 2", road.here(0, 0, 2));
        due.yes("as known in 3", road.here(0, 0, 3));
        due.yes("as known in 2, of a later day", road.here(0, 3, 2));
    }

    static void p05TheDayOnWhichGoneWasTold() {
        BeastRoad road = Scene.withBeasts(1);
        road.day();
        road.day();
        road.gone(0, 1);
        road.day();
        due.yes("as known in 1", road.here(0, 1, 1));
        due.no("as known in 2", road.here(0, 1, 2));
        due.no("as known in 3", road.here(0, 1, 3));
    }

    static void p05TheLastToldUpToQ() {
        BeastRoad road = Scene.withBeasts(1);
        road.day();
        road.gone(0, 0);
        road.gone(0, 1);
        road.day();
        road.gone(0, 1);
        road.gone(0, BeastRoad.NONE);
        due.yes("q 0, day 1", road.here(0, 1, 0));
        due.yes("q 1, day 0", road.here(0, 0, 1));
        due.no("q 1, day 1", road.here(0, 1, 1));
        due.yes("q 2, day 1", road.here(0, 1, 2));
    }

    static void p05OfTwoBeastsEachItsOwn() {
        BeastRoad road = Scene.withBeasts(2);
        road.gone(0, 0);
        due.no("the first", road.here(0, 0, 0));
        due.yes("the other", road.here(1, 0, 0));
    }

    // ---- Promise 6: ration

    static void p06NoSuchDay() {
        for (int day : Due.outside(0, 3)) {
            due.is("ration(" + day + ", 3)", Scene.full().ration(day, 3), -1);
        }
    }

    static void p06NoSuchQ() {
        for (int q : Due.outside(0, 3)) {
            due.is("ration(3, " + q + ")", Scene.full().ration(3, q), -1);
        }
    }

    static void p06FirstAndLastDays() {
        BeastRoad road = Scene.full();
        due.is("0 as known in 0", road.ration(0, 0), 107);
        due.is("0 as known in NOW", road.ration(0, 3), 109);
        due.is("NOW as known in 0", road.ration(3, 0), 107);
        due.is("NOW as known in NOW", road.ration(3, 3), 305);
    }

    static void p06NoBeasts() {
        due.is("day 0", new BeastRoad().ration(0, 0), 0);
        due.is("day 400", Scene.onDay(400).ration(400, 400), 0);
    }

    static void p06FortyWithTheMostFeed() {
        BeastRoad road = Scene.withBeasts(40);
        road.kind(0, 100, 1);
        due.is("40 times 100", road.ration(0, 0), 4000);
    }

    static void p06AFeedOfZero() {
        BeastRoad road = Scene.withBeasts(40);
        road.kind(0, 0, 1);
        due.is("40 times 0", road.ration(0, 0), 0);
    }

    static void p06FeedsAsToldLast() {
        BeastRoad road = Scene.withBeasts(1);
        road.day();
        road.kind(0, 9, 1);
        due.is("as known in 0", road.ration(0, 0), 9);
        road.kind(0, 4, 1);
        due.is("as known in 0", road.ration(0, 0), 4);
        due.is("as known in 1", road.ration(1, 1), 4);
    }

    // ---- Promise 7: day

    static void p07NoLines() {
        BeastRoad road = new BeastRoad();
        due.is("day()", road.day(), 0);
        due.is("NOW", road.count(0), 1);
        due.is("LINES", road.count(3), 0);
    }

    static void p07FromDay0ToNowRising() {
        BeastRoad road = Scene.onDay(2);
        road.beast(0, 0);
        due.is("day()", road.day(), 3);
        for (int day = 0; day < 3; day++) {
            due.is("made on", road.line(day, 0), 2);
            due.is("for", road.line(day, 1), day);
        }
    }

    static void p07OnlyDaysThatDiffer() {
        BeastRoad road = Scene.withBeasts(1);
        road.day();
        road.day();
        road.gone(0, 1);
        due.is("days 1; not 0, which is as booked, nor 2, which is 0", road.day(), 1);
        due.is("for", road.line(2, 1), 1);
        due.is("units", road.line(2, 2), -1);
    }

    static void p07ARationOf0ThatWasBooked() {
        BeastRoad road = Scene.withBeasts(1);
        road.kind(0, 100, 1);
        road.day();
        road.gone(0, 0);
        due.is("day()", road.day(), 1);
        due.is("units", road.line(1, 2), -100);
        due.is("booked(0)", road.booked(0), 0);
        due.is("day()", road.day(), 0);
    }

    static void p07Day399Ends() {
        BeastRoad road = Scene.onDay(399);
        due.is("NOW", road.count(0), 399);
        due.is("day()", road.day(), 0);
        due.is("NOW", road.count(0), 400);
    }

    static void p07NowIs400() {
        due.refused("day()", () -> Scene.onDay(400), BeastRoad::day);
        BeastRoad road = Scene.onDay(400);
        road.beast(0, 0);
        due.is("day()", road.day(), -1);
        due.is("NOW", road.count(0), 400);
        due.is("LINES", road.count(3), 0);
        due.is("booked(0)", road.booked(0), 0);
        due.is("day() again", road.day(), -1);
    }

    static void p07TwentyThousandLinesJust() {
        BeastRoad road = nearly20000();
        road.beast(1, 3);
        due.is("day()", road.day(), 279);
        due.is("LINES", road.count(3), 20_000);
        due.is("NOW", road.count(0), 282);
        due.is("the last is for", road.line(19_999, 1), 281);
        due.is("none behind it", road.line(20_000, 0), NO_ENTRY);
    }

    static void p07OneMoreThan20000() {
        BeastRoad road = nearly20000();
        int inAll = road.count(4);
        int booked = road.booked(2);
        road.beast(1, 2);
        due.is("day()", road.day(), -1);
        due.is("NOW", road.count(0), 281);
        due.is("LINES", road.count(3), 19_721);
        due.is("no line", road.line(19_721, 0), NO_ENTRY);
        due.is("units in all", road.count(4), inAll);
        due.is("booked(2)", road.booked(2), booked);
        due.is("booked(281)", road.booked(281), 0);
        road.gone(1, 2);
        due.is("day(), without that beast", road.day(), 1);
    }

    static void p07ADayWithoutLinesBehind20000() {
        BeastRoad road = nearly20000();
        road.beast(1, 3);
        road.day();
        due.is("one line would be too many", road.day(), -1);
        due.is("NOW", road.count(0), 282);
        road.gone(0, 282);
        road.gone(1, 282);
        due.is("none is not", road.day(), 0);
        due.is("NOW", road.count(0), 283);
        due.is("LINES", road.count(3), 20_000);
    }

    /** Day 281 with 19,721 lines: 200 on day 199, 201 on day 200, and so on. 365 calls. */
    private static BeastRoad nearly20000() {
        BeastRoad road = Scene.onDay(199);
        road.beast(0, 0);
        for (int day = 199; day < 281; day++) {
            road.kind(0, 1 + day % 2, 1);
            road.day();
        }
        due.is("LINES", road.count(3), 19_721);
        return road;
    }

    // ---- Promise 8: line

    static void p08NoSuchLine() {
        BeastRoad road = threeLines();
        for (int i : Due.outside(0, 2)) {
            for (int what = 0; what < 3; what++) {
                due.is("line(" + i + ", " + what + ")", road.line(i, what), NO_ENTRY);
            }
        }
    }

    /** Numbers that times 3 wrap around to those of parts that are there. */
    static void p08NumbersThatWrapAround() {
        BeastRoad road = threeLines();
        for (int i : new int[] {1_431_655_765, 1_431_655_766, -1_431_655_765, -1_431_655_766}) {
            for (int what = 0; what < 3; what++) {
                due.is("line(" + i + ", " + what + ")", road.line(i, what), NO_ENTRY);
            }
        }
    }

    static void p08NoSuchWhat() {
        BeastRoad road = threeLines();
        for (int what : Due.outside(0, 2)) {
            for (int i = 0; i < 3; i++) {
                due.is("line(" + i + ", " + what + ")", road.line(i, what), NO_ENTRY);
            }
        }
    }

    static void p08FirstAndLastLine() {
        BeastRoad road = threeLines();
        int[][] lines = {{0, 0, 100}, {1, 0, -100}, {2, 2, 1}};
        for (int i = 0; i < 3; i++) {
            for (int what = 0; what < 3; what++) {
                due.is("line(" + i + ", " + what + ")", road.line(i, what), lines[i][what]);
            }
        }
    }

    private static BeastRoad threeLines() {
        BeastRoad road = Scene.withBeasts(1);
        road.kind(0, 100, 1);
        road.day();
        road.gone(0, 0);
        road.day();
        road.beast(1, 2);
        road.day();
        return road;
    }

    static void p08NoLinesYet() {
        due.is("line(0, 0)", new BeastRoad().line(0, 0), NO_ENTRY);
        BeastRoad road = Scene.withBeasts(1);
        due.is("line(0, 2), the day has not ended", road.line(0, 2), NO_ENTRY);
    }

    // ---- Promise 9: booked

    static void p09NoSuchDay() {
        BeastRoad road = Scene.full();
        for (int day : Due.outside(0, 400)) {
            due.is("booked(" + day + ")", road.booked(day), 0);
        }
    }

    static void p09NowIsNotBookedYet() {
        BeastRoad road = Scene.full();
        due.is("booked(3)", road.booked(3), 0);
        due.is("booked(4)", road.booked(4), 0);
        road.day();
        due.is("booked(3)", road.booked(3), 305);
        due.is("booked(4)", road.booked(4), 0);
    }

    static void p09FirstAndLastDay() {
        BeastRoad road = Scene.onDay(399);
        road.beast(0, 0);
        road.day();
        due.is("booked(0)", road.booked(0), 1);
        due.is("booked(399)", road.booked(399), 1);
        due.is("booked(400)", road.booked(400), 0);
    }

    static void p09TheMost() {
        BeastRoad road = Scene.withBeasts(40);
        road.kind(0, 100, 1);
        road.day();
        due.is("booked(0)", road.booked(0), 4000);
    }
}
