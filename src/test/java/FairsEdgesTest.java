/** Promises 14 to 18: each sentence that names a boundary, by a test of its own. */
public final class FairsEdgesTest {
    private static final Due due = new Due();

    public static void main(String[] args) throws ReflectiveOperationException {
        due.runEach(FairsEdgesTest.class);
    }

    // ---- Promise 14: town

    static void p14FirstDayOutOfBounds() {
        for (int first : Due.outside(0, 1000)) {
            due.refused("town(" + first + ", 1000, 1)", Scene::full, road -> road.town(first, 1000, 1));
            due.refused("town(" + first + " twice, 1)", Scene::full, road -> road.town(first, first, 1));
        }
    }

    static void p14LastDayOutOfBounds() {
        for (int last : Due.outside(0, 1000)) {
            due.refused("town(0, " + last + ", 1)", Scene::full, road -> road.town(0, last, 1));
        }
    }

    static void p14FirstAndLastDays() {
        BeastRoad road = new BeastRoad();
        due.is("town(0, 0, 1)", road.town(0, 0, 1), 0);
        due.is("town(1000, 1000, 1)", road.town(1000, 1000, 1), 1);
        due.is("town(0, 1000, 1)", road.town(0, 1000, 1), 2);
        due.is("its tour", road.tour(2, 1000), 1);
    }

    static void p14TheLastDayAheadOfTheFirst() {
        due.refused("town(5, 4, 1)", Scene::full, road -> road.town(5, 4, 1));
        due.refused("town(1, 0, 1)", Scene::full, road -> road.town(1, 0, 1));
        due.refused("town(1000, 0, 1)", Scene::full, road -> road.town(1000, 0, 1));
        due.is("alike", Scene.full().town(5, 5, 1), 3);
    }

    static void p14BringsOutOfBounds() {
        for (int brings : Due.outside(0, 10_000)) {
            due.refused("town(0, 5, " + brings + ")", Scene::full, road -> road.town(0, 5, brings));
        }
    }

    static void p14LeastAndMostBrought() {
        BeastRoad road = new BeastRoad();
        due.is("0", road.town(0, 5, 0), 0);
        due.is("10,000", road.town(0, 5, 10_000), 1);
        due.is("tour(0, 5)", road.tour(0, 5), 0);
        due.is("tour(1, 5)", road.tour(1, 5), 10_000);
    }

    static void p14TheEighth() {
        BeastRoad road = towns(7, 0, 5, 1);
        due.is("town(..)", road.town(0, 5, 33), 7);
        due.is("TOWNS", road.count(5), 8);
        due.is("tour(7, 5)", road.tour(7, 5), 33);
    }

    static void p14ThereAreEight() {
        due.refused("a ninth", () -> towns(8, 0, 5, 1), road -> road.town(0, 5, 1));
        due.refused("a ninth that is wrong", () -> towns(8, 0, 5, 1), road -> road.town(-1, 5, 1));
    }

    static void p14RefusedOnesHaveNoNumber() {
        BeastRoad road = new BeastRoad();
        road.town(5, 4, 1);
        road.town(0, 1001, 1);
        due.is("the first", road.town(0, 5, 1), 0);
    }

    private static BeastRoad towns(int count, int first, int last, int brings) {
        BeastRoad road = new BeastRoad();
        for (int town = 0; town < count; town++) {
            road.town(first, last, brings);
        }
        return road;
    }

    // ---- Promise 15: way

    static void p15NoSuchTown() {
        for (int town : Due.outside(0, 2)) {
            due.denied("way(" + town + ", 0, 5)", Scene::full, road -> road.way(town, 0, 5));
            due.denied("way(0, " + town + ", 5)", Scene::full, road -> road.way(0, town, 5));
        }
        due.no("no towns at all", new BeastRoad().way(0, 1, 5));
    }

    static void p15Alike() {
        for (int town = 0; town < 3; town++) {
            int alike = town;
            due.denied("way(" + town + " twice, 5)", Scene::full, road -> road.way(alike, alike, 5));
        }
    }

    static void p15DaysOutOfBounds() {
        for (int days : Due.outside(1, 60)) {
            due.denied("way(0, 1, " + days + ")", Scene::full, road -> road.way(0, 1, days));
        }
    }

    static void p15OneDay() {
        BeastRoad road = new BeastRoad();
        road.town(0, 0, 1);
        road.town(2, 2, 1);
        due.is("9 at first: too late", road.tour(0, 0), 1);
        due.yes("way(0, 1, 1)", road.way(0, 1, 1));
        due.is("in time", road.tour(0, 0), 2);
    }

    static void p15SixtyDays() {
        BeastRoad road = new BeastRoad();
        road.town(0, 0, 100);
        road.town(0, 61, 100);
        road.fodder(1);
        due.yes("way(0, 1, 60)", road.way(0, 1, 60));
        due.is("just in time", road.tour(0, 0), 200 - 62);
    }

    static void p15EitherWayAlike() {
        BeastRoad road = towns(2, 0, 100, 50);
        road.fodder(1);
        due.yes("way(0, 1, 3)", road.way(0, 1, 3));
        due.is("there", road.tour(0, 0), 95);
        due.is("back", road.tour(1, 0), 95);
        due.yes("way(1, 0, 4)", road.way(1, 0, 4));
        due.is("there", road.tour(0, 0), 94);
        due.is("back", road.tour(1, 0), 94);
    }

    static void p15ToldAlikeIsNotRefused() {
        BeastRoad road = towns(2, 0, 100, 50);
        due.yes("9, as at first", road.way(0, 1, 9));
        due.yes("9 again", road.way(0, 1, 9));
    }

    static void p15TheFirstAndTheEighthTown() {
        BeastRoad road = towns(8, 0, 0, 0);
        due.yes("way(0, 7, 1)", road.way(0, 7, 1));
        due.yes("way(7, 6, 1)", road.way(7, 6, 1));
        due.no("way(7, 8, 1)", road.way(7, 8, 1));
    }

    // ---- Promise 16: fodder

    static void p16OutOfBounds() {
        for (int coins : Due.outside(0, 1000)) {
            due.denied("fodder(" + coins + ")", Scene::full, road -> road.fodder(coins));
        }
    }

    static void p16LeastAndMost() {
        BeastRoad road = towns(1, 0, 5, 5000);
        due.yes("fodder(1000)", road.fodder(1000));
        due.is("one day", road.tour(0, 0), 4000);
        due.yes("fodder(0)", road.fodder(0));
        due.is("for nothing", road.tour(0, 0), 5000);
        due.yes("fodder(0) again", road.fodder(0));
    }

    // ---- Promise 17: tour

    static void p17NoSuchTown() {
        for (int town : Due.outside(0, 2)) {
            due.is("tour(" + town + ", 0)", Scene.full().tour(town, 0), -1);
        }
        due.is("no towns at all", new BeastRoad().tour(0, 0), -1);
    }

    static void p17NoSuchDay() {
        for (int day : Due.outside(0, 1000)) {
            due.is("tour(0, " + day + ")", Scene.full().tour(0, day), -1);
        }
    }

    static void p17FirstAndLastDay() {
        BeastRoad road = towns(1, 0, 1000, 7);
        due.is("day 0", road.tour(0, 0), 7);
        due.is("day 1,000", road.tour(0, 1000), 7);
    }

    static void p17TheFirstFairIsOver() {
        BeastRoad road = new BeastRoad();
        road.town(3, 5, 100);
        road.town(0, 1000, 10_000);
        due.is("on its last day", road.tour(0, 5), 10_100);
        due.is("a day behind: the empty one", road.tour(0, 6), 0);
    }

    static void p17WaitingForAFair() {
        BeastRoad road = towns(1, 4, 5, 100);
        road.fodder(1);
        due.is("three days ahead", road.tour(0, 1), 96);
        due.is("a day ahead", road.tour(0, 3), 98);
        due.is("on its first day", road.tour(0, 4), 99);
        due.is("on its last day", road.tour(0, 5), 99);
        due.is("behind it", road.tour(0, 6), 0);
    }

    static void p17ThereByTheLastDay() {
        BeastRoad road = new BeastRoad();
        road.town(0, 100, 1);
        road.town(20, 30, 1);
        due.is("there on 30", road.tour(0, 20), 2);
        due.is("there on 31", road.tour(0, 21), 1);
    }

    static void p17OneDayAtEachFair() {
        BeastRoad road = towns(3, 0, 100, 10);
        road.fodder(1);
        road.way(0, 1, 1);
        road.way(1, 2, 1);
        due.is("three fairs, two ways", road.tour(0, 0), 30 - 5);
    }

    static void p17EachTownOnce() {
        BeastRoad road = towns(2, 0, 1000, 10_000);
        road.way(0, 1, 1);
        due.is("two towns", road.tour(0, 0), 20_000);
    }

    static void p17EndsBehindDay1000() {
        BeastRoad road = towns(1, 1000, 1000, 10_000);
        road.fodder(9);
        due.is("1,001 days", road.tour(0, 0), 10_000 - 9_009);
        due.is("one day", road.tour(0, 1000), 9_991);
        road.fodder(10);
        due.is("1,001 days cost more", road.tour(0, 0), 0);
    }

    static void p17BringsJustAsMuchAsTheEmptyOne() {
        BeastRoad road = towns(1, 0, 5, 7);
        road.fodder(6);
        due.is("1", road.tour(0, 0), 1);
        road.fodder(7);
        due.is("0", road.tour(0, 0), 0);
        due.is("the empty one has fewer towns", road.stop(0, 0, 0), -1);
        road.fodder(8);
        due.is("less", road.tour(0, 0), 0);
    }

    static void p17TheFirstFairBringsALoss() {
        BeastRoad road = new BeastRoad();
        road.town(0, 0, 0);
        road.town(0, 100, 5000);
        road.fodder(100);
        due.is("11 days", road.tour(0, 0), 3900);
    }

    static void p17TheMostThatToursBring() {
        BeastRoad road = towns(8, 0, 1000, 10_000);
        due.is("eight", road.tour(7, 0), 80_000);
        road.fodder(1000);
        due.is("8 days and 7 times 9", road.tour(7, 0), 80_000 - 71_000);
    }

    static void p17AskedAnewWhenSomethingIsToldAnew() {
        BeastRoad road = towns(1, 0, 100, 10);
        due.is("one town", road.tour(0, 0), 10);
        road.town(0, 100, 10);
        due.is("two towns", road.tour(0, 0), 20);
        road.fodder(1);
        due.is("with fodder", road.tour(0, 0), 9);
        road.way(0, 1, 1);
        due.is("by a short way", road.tour(0, 0), 17);
        due.is("on another day", road.tour(0, 100), 9);
        due.is("from the other town", road.tour(1, 0), 17);
    }

    // ---- Promise 18: stop

    static void p18NoSuchTown() {
        for (int town : Due.outside(0, 2)) {
            due.is("stop(" + town + ", 0, 0)", Scene.full().stop(town, 0, 0), -1);
        }
        due.is("no towns at all", new BeastRoad().stop(0, 0, 0), -1);
    }

    static void p18NoSuchDay() {
        for (int day : Due.outside(0, 1000)) {
            due.is("stop(0, " + day + ", 0)", towns(1, 0, 1000, 1).stop(0, day, 0), -1);
        }
        due.is("day 0", towns(1, 0, 1000, 1).stop(0, 0, 0), 0);
        due.is("day 1,000", towns(1, 0, 1000, 1).stop(0, 1000, 0), 0);
    }

    static void p18NoSuchPlace() {
        BeastRoad road = towns(2, 0, 100, 5);
        due.is("the last", road.stop(1, 0, 1), 0);
        for (int i : Due.outside(0, 1)) {
            due.is("stop(1, 0, " + i + ")", road.stop(1, 0, i), -1);
        }
    }

    static void p18EightPlaces() {
        BeastRoad road = towns(8, 0, 1000, 5);
        int[] stops = {7, 0, 1, 2, 3, 4, 5, 6};
        for (int i = 0; i < 8; i++) {
            due.is("stop(7, 0, " + i + ")", road.stop(7, 0, i), stops[i]);
        }
        for (int i : Due.outside(0, 7)) {
            due.is("stop(7, 0, " + i + ")", road.stop(7, 0, i), -1);
        }
    }

    static void p18TheEmptyTour() {
        BeastRoad road = towns(3, 0, 5, 5);
        for (int i = -1; i <= 8; i++) {
            due.is("stop(0, 6, " + i + ")", road.stop(0, 6, i), -1);
        }
    }

    static void p18FewerTownsOfToursAlike() {
        BeastRoad road = new BeastRoad();
        road.town(0, 100, 10);
        road.town(0, 100, 0);
        road.town(0, 100, 10);
        road.town(0, 100, 10);
        checkTour(road, 0, 30, 0, 2, 3);
        checkTour(road, 1, 30, 1, 0, 2, 3);
        checkTour(road, 3, 30, 3, 0, 2);
    }

    /** The last town is in time by town 2 alone, with or without town 1 ahead of it. */
    static void p18FewerTownsWhereThoseAheadBringNothing() {
        BeastRoad road = new BeastRoad();
        for (int town = 0; town < 3; town++) {
            road.town(0, 100, 0);
        }
        road.town(0, 6, 10);
        road.way(0, 1, 1);
        road.way(0, 2, 1);
        road.way(1, 2, 1);
        road.way(2, 3, 1);
        road.way(0, 3, 60);
        road.way(1, 3, 60);
        checkTour(road, 0, 10, 0, 2, 3);
        road.way(0, 2, 60);
        checkTour(road, 0, 10, 0, 1, 2, 3);
        road.way(1, 2, 2);
        checkTour(road, 0, 0);
    }

    /** What a fair brings is just what the days to it cost. */
    static void p18FewerTownsWhereAFairIsWorthNothing() {
        BeastRoad road = new BeastRoad();
        road.town(0, 100, 100);
        road.town(0, 100, 10);
        road.fodder(1);
        checkTour(road, 0, 99, 0);
        road.way(0, 1, 8);
        checkTour(road, 0, 100, 0, 1);
    }

    static void p18TheLowerTownWhereTheyFirstDiffer() {
        BeastRoad road = towns(4, 0, 100, 10);
        checkTour(road, 0, 40, 0, 1, 2, 3);
        checkTour(road, 2, 40, 2, 0, 1, 3);
        road.fodder(1);
        checkTour(road, 3, 40 - 31, 3);
        road.way(3, 1, 2);
        road.way(3, 2, 2);
        checkTour(road, 3, 20 - 4, 3, 1);
    }

    /** Of tours with as many towns the lower one arrives later, but waiting makes them end alike. */
    static void p18TheLowerOfToursThatWaitAlike() {
        BeastRoad road = new BeastRoad();
        road.town(0, 100, 100);
        road.town(0, 100, 100);
        road.town(0, 100, 100);
        road.town(50, 50, 1000);
        road.fodder(1);
        road.way(0, 2, 1);
        road.way(2, 1, 1);
        checkTour(road, 0, 1300 - 51, 0, 1, 2, 3);
    }

    private static void checkTour(BeastRoad road, int town, int brings, int... towns) {
        due.is("tour(" + town + ", 0)", road.tour(town, 0), brings);
        for (int i = 0; i < towns.length; i++) {
            due.is("stop(" + town + ", 0, " + i + ")", road.stop(town, 0, i), towns[i]);
        }
        due.is("stop(" + town + ", 0, " + towns.length + ")", road.stop(town, 0, towns.length), -1);
    }
}
