/** Promises 14 to 18: towns, ways, fodder, tours. */
public final class FairsTest {
    private static final Due due = new Due();

    public static void main(String[] args) {
        towns();
        ways();
        fodder();
        waitingAndLastDays();
        noFairNoTour();
        daysOfTours();
        fewerTownsFirst();
        lowerTownsFirst();
        detourByPoorTown();
        lossFirst();
        toldAnew();
        eightTowns();
        due.end();
    }

    // Promise 14
    private static void towns() {
        BeastRoad road = new BeastRoad();
        due.is("first -1", road.town(-1, 5, 1), -1);
        due.is("last 1001", road.town(0, 1001, 1), -1);
        due.is("both 1001", road.town(1001, 1001, 1), -1);
        due.is("last ahead of first", road.town(5, 4, 1), -1);
        due.is("brings -1", road.town(0, 5, -1), -1);
        due.is("brings 10,001", road.town(0, 5, 10_001), -1);
        due.is("none told", road.count(5), 0);
        due.is("0", road.town(0, 1000, 10_000), 0);
        due.is("1", road.town(1000, 1000, 0), 1);
        due.is("2", road.town(0, 0, 5), 2);
        for (int town = 3; town < 8; town++) {
            due.is("more", road.town(1, 2, 3), town);
        }
        due.is("a ninth", road.town(1, 2, 3), -1);
        due.is("eight", road.count(5), 8);
        due.is("10,000", road.tour(0, 900), 10_000);
    }

    // Promise 15
    private static void ways() {
        BeastRoad road = new BeastRoad();
        road.town(0, 0, 10);
        road.town(10, 10, 10);
        due.no("no town 2", road.way(0, 2, 5));
        due.no("no town 2", road.way(2, 0, 5));
        due.no("no town -1", road.way(-1, 0, 5));
        due.no("alike", road.way(1, 1, 5));
        due.no("0 days", road.way(0, 1, 0));
        due.no("61 days", road.way(0, 1, 61));
        due.is("9 at first", road.tour(0, 0), 20);
        due.yes("10", road.way(0, 1, 10));
        due.is("too late", road.tour(0, 0), 10);
        due.yes("either way", road.way(1, 0, 1));
        due.is("in time", road.tour(0, 0), 20);
        due.yes("told alike", road.way(1, 0, 1));
        due.yes("60", road.way(0, 1, 60));
        due.is("too late", road.tour(0, 0), 10);
        road.town(61, 61, 7);
        due.yes("60", road.way(2, 0, 60));
        due.is("in time", road.tour(0, 0), 17);
        due.is("a new town's way is 9", road.tour(1, 0), 17);
    }

    // Promise 16
    private static void fodder() {
        BeastRoad road = new BeastRoad();
        road.town(2, 2, 5000);
        due.no("-1", road.fodder(-1));
        due.no("1,001", road.fodder(1001));
        due.is("0 at first", road.tour(0, 0), 5000);
        due.yes("1", road.fodder(1));
        due.is("three days", road.tour(0, 0), 4997);
        due.is("one day", road.tour(0, 2), 4999);
        due.yes("1,000", road.fodder(1000));
        due.is("three days", road.tour(0, 0), 2000);
        due.yes("0", road.fodder(0));
        due.is("for nothing", road.tour(0, 0), 5000);
    }

    // Promises 17 and 18
    private static void waitingAndLastDays() {
        BeastRoad road = new BeastRoad();
        road.town(3, 5, 100);
        road.town(0, 15, 200);
        road.town(26, 30, 400);
        road.fodder(1);
        checkTour(road, 0, 0, 700 - 27, 0, 1, 2);
        checkTour(road, 0, 5, 700 - 22, 0, 1, 2);
        checkTour(road, 0, 6, 0);
        checkTour(road, 1, 15, 600 - 12, 1, 2);
        checkTour(road, 2, 30, 399, 2);
        checkTour(road, 2, 31, 0);
        road.way(0, 1, 10);
        checkTour(road, 0, 4, 700 - 23, 0, 1, 2);
        checkTour(road, 0, 5, 500 - 22, 0, 2);
    }

    private static void noFairNoTour() {
        BeastRoad road = new BeastRoad();
        due.is("no town", road.tour(0, 0), -1);
        due.is("no town", road.stop(0, 0, 0), -1);
        road.town(5, 6, 10);
        road.town(20, 30, 10_000);
        checkTour(road, 0, 7, 0);
        checkTour(road, 0, 6, 10_010, 0, 1);
        due.is("stop of no town", road.stop(2, 0, 0), -1);
        due.is("stop -1", road.stop(0, 0, -1), -1);
        due.is("stop most", road.stop(0, 0, Integer.MAX_VALUE), -1);
    }

    private static void daysOfTours() {
        BeastRoad road = new BeastRoad();
        road.town(1000, 1000, 10);
        due.is("town -1", road.tour(-1, 0), -1);
        due.is("town 1", road.tour(1, 0), -1);
        due.is("day -1", road.tour(0, -1), -1);
        due.is("day 1,001", road.tour(0, 1001), -1);
        due.is("stop, day -1", road.stop(0, -1, 0), -1);
        due.is("stop, day 1,001", road.stop(0, 1001, 0), -1);
        checkTour(road, 0, 1000, 10, 0);
        checkTour(road, 0, 0, 10, 0);
    }

    private static void fewerTownsFirst() {
        BeastRoad road = new BeastRoad();
        road.town(0, 0, 10);
        road.town(10, 10, 0);
        road.town(20, 20, 10);
        checkTour(road, 0, 0, 20, 0, 2);
        road.fodder(10);
        checkTour(road, 0, 0, 0);
        checkTour(road, 1, 0, 0);
        road.fodder(0);
        checkTour(road, 1, 0, 10, 1, 2);
        checkTour(road, 1, 11, 0);
    }

    private static void lowerTownsFirst() {
        BeastRoad road = new BeastRoad();
        road.town(0, 100, 10);
        road.town(0, 100, 10);
        road.town(0, 100, 10);
        road.town(0, 100, 10);
        checkTour(road, 2, 0, 40, 2, 0, 1, 3);
        road.town(0, 9, 5);
        road.town(0, 9, 5);
        checkTour(road, 2, 0, 40, 2, 0, 1, 3);
        road.way(2, 4, 8);
        road.way(2, 5, 8);
        checkTour(road, 2, 0, 45, 2, 4, 0, 1, 3);
        road.way(2, 4, 9);
        checkTour(road, 2, 0, 45, 2, 5, 0, 1, 3);
    }

    /** A town that brings nothing stands on the quicker way. */
    private static void detourByPoorTown() {
        BeastRoad road = new BeastRoad();
        road.town(0, 0, 10);
        road.town(5, 5, 50);
        road.town(0, 100, 0);
        road.way(0, 2, 1);
        road.way(2, 1, 2);
        checkTour(road, 0, 0, 60, 0, 2, 1);
        road.fodder(1);
        checkTour(road, 0, 0, 54, 0, 2, 1);
    }

    /** The first fair alone brings less than nothing. */
    private static void lossFirst() {
        BeastRoad road = new BeastRoad();
        road.town(0, 10, 1);
        road.town(0, 100, 100);
        road.fodder(5);
        checkTour(road, 0, 0, 101 - 55, 0, 1);
        road.fodder(10);
        checkTour(road, 0, 0, 0);
    }

    private static void toldAnew() {
        BeastRoad road = new BeastRoad();
        road.town(0, 50, 10);
        checkTour(road, 0, 0, 10, 0);
        road.town(0, 50, 20);
        checkTour(road, 0, 0, 30, 0, 1);
        road.fodder(1);
        checkTour(road, 0, 0, 19, 0, 1);
        road.way(0, 1, 20);
        checkTour(road, 0, 0, 9, 0);
        road.way(1, 0, 18);
        checkTour(road, 0, 0, 10, 0, 1);
    }

    private static void eightTowns() {
        BeastRoad road = new BeastRoad();
        for (int town = 0; town < 8; town++) {
            road.town(0, 1000, 100 + town);
        }
        checkTour(road, 7, 0, 828, 7, 0, 1, 2, 3, 4, 5, 6);
        for (int town = 0; town < 7; town++) {
            road.way(town, town + 1, 60);
        }
        road.fodder(1);
        checkTour(road, 0, 0, 828 - 8 - 63, 0, 2, 4, 1, 5, 7, 3, 6);
    }

    private static void checkTour(BeastRoad road, int town, int day, int brings, int... towns) {
        String call = "(" + town + ", " + day + ")";
        due.is("tour" + call, road.tour(town, day), brings);
        for (int i = 0; i < towns.length; i++) {
            due.is("stop" + call + " " + i, road.stop(town, day, i), towns[i]);
        }
        due.is("stop" + call + " behind", road.stop(town, day, towns.length), -1);
    }
}
