/** Promises 10 to 13: wagons, bars, the order. */
public final class WagonsTest {
    private static final Due due = new Due();

    public static void main(String[] args) {
        loads();
        goneBeastStaysLoaded();
        bars();
        soundness();
        orders();
        orderLooksAhead();
        eightWagons();
        due.end();
    }

    // Promises 10 and 12
    private static void loads() {
        BeastRoad road = new BeastRoad();
        road.kind(0, 1, 1000);
        due.no("no beast", road.load(0, 0));
        for (int i = 0; i < 3; i++) {
            road.beast(0, 0);
        }
        road.beast(1, 0);
        due.no("beast -1", road.load(-1, 0));
        due.no("beast 4", road.load(4, 0));
        due.no("wagon 8", road.load(0, 8));
        due.no("wagon -2", road.load(0, -2));
        due.no("out already", road.load(0, -1));
        due.is("in wagons", road.count(9), 0);
        due.yes("into 7", road.load(0, 7));
        due.no("it is so", road.load(0, 7));
        due.yes("2,000", road.load(1, 7));
        due.no("3,000", road.load(2, 7));
        due.no("2,001", road.load(3, 7));
        due.is("refused: stays out", road.count(9), 2);
        due.is("weight", road.wagon(7, 0), 2000);
        due.is("beasts", road.wagon(7, 1), 2);
        due.yes("from one to another", road.load(0, 0));
        due.is("left", road.wagon(7, 0), 1000);
        due.is("left", road.wagon(7, 1), 1);
        due.is("came", road.wagon(0, 0), 1000);
        due.yes("room now", road.load(3, 7));
        due.is("1,001", road.wagon(7, 0), 1001);
        due.no("no room to come back", road.load(0, 7));
        due.is("refused: stays where it is", road.wagon(0, 1), 1);
        due.is("in wagons", road.count(9), 3);
        due.yes("out of all", road.load(0, -1));
        due.is("empty", road.wagon(0, 0), 0);
        due.is("empty", road.wagon(0, 1), 0);
        due.is("empty is sound", road.wagon(0, 2), 1);
        due.is("in wagons", road.count(9), 2);
        due.is("what 3", road.wagon(0, 3), -1);
        due.is("what -1", road.wagon(0, -1), -1);
        due.is("wagon 8", road.wagon(8, 0), -1);
        due.is("wagon -1", road.wagon(-1, 1), -1);
    }

    private static void goneBeastStaysLoaded() {
        BeastRoad road = new BeastRoad();
        road.beast(0, 0);
        road.load(0, 3);
        road.gone(0, 0);
        due.is("held still", road.wagon(3, 1), 1);
        due.is("in the order still", road.order(0), 3);
    }

    // Promise 11
    private static void bars() {
        BeastRoad road = new BeastRoad();
        due.no("kind -1", road.bar(-1, 0, true));
        due.no("kind -1", road.bar(0, -1, true));
        due.no("kind 8", road.bar(8, 0, true));
        due.no("kind 8", road.bar(0, 8, true));
        due.no("not barred already", road.bar(2, 5, false));
        due.yes("bar", road.bar(2, 5, true));
        due.no("either way alike", road.bar(5, 2, true));
        due.no("it is so", road.bar(2, 5, true));
        due.yes("no more", road.bar(5, 2, false));
        due.no("no more, either way", road.bar(2, 5, false));
        due.yes("itself", road.bar(7, 7, true));
        due.no("itself already", road.bar(7, 7, true));
        due.yes("itself no more", road.bar(7, 7, false));
        due.no("itself no more already", road.bar(7, 7, false));
    }

    private static void soundness() {
        BeastRoad road = new BeastRoad();
        road.beast(0, 0);
        road.beast(1, 0);
        road.beast(0, 0);
        road.load(0, 0);
        road.bar(0, 0, true);
        due.is("one alone is sound", road.wagon(0, 2), 1);
        road.load(1, 0);
        due.is("two kinds that do not bar", road.wagon(0, 2), 1);
        road.bar(1, 0, true);
        due.is("two kinds that bar", road.wagon(0, 2), 0);
        road.bar(0, 1, false);
        road.load(2, 0);
        due.is("a kind that bars itself", road.wagon(0, 2), 0);
        road.load(2, 1);
        due.is("apart", road.wagon(0, 2), 1);
        due.is("apart", road.wagon(1, 2), 1);
    }

    // Promise 13
    private static void orders() {
        BeastRoad road = new BeastRoad();
        due.is("empty", road.order(0), -1);
        for (int kind = 0; kind < 3; kind++) {
            road.beast(kind, 0);
        }
        road.load(0, 6);
        road.load(1, 2);
        road.load(2, 4);
        checkOrder(road, 2, 4, 6);
        due.is("order -1", road.order(-1), -1);
        due.is("order most", road.order(Integer.MAX_VALUE), -1);
        road.bar(1, 2, true);
        checkOrder(road, 2, 6, 4);
        road.bar(0, 1, true);
        checkOrder(road);
        road.bar(1, 2, false);
        checkOrder(road, 2, 4, 6);
        road.load(1, 4);
        checkOrder(road);
        road.load(0, -1);
        checkOrder(road, 4);
    }

    /** The lowest first wagon leads nowhere: 0 stands between two others only. */
    private static void orderLooksAhead() {
        BeastRoad road = new BeastRoad();
        for (int kind = 0; kind < 4; kind++) {
            road.beast(kind, 0);
            road.load(kind, kind);
        }
        road.bar(1, 2, true);
        road.bar(1, 3, true);
        road.bar(2, 3, true);
        checkOrder(road);
        road.bar(2, 3, false);
        checkOrder(road, 1, 0, 2, 3);
        road.bar(0, 1, true);
        checkOrder(road);
    }

    private static void eightWagons() {
        BeastRoad road = new BeastRoad();
        for (int wagon = 0; wagon < 8; wagon++) {
            road.beast(wagon, 0);
            road.load(wagon, wagon);
        }
        checkOrder(road, 0, 1, 2, 3, 4, 5, 6, 7);
        for (int wagon = 0; wagon < 7; wagon++) {
            road.bar(wagon, wagon + 1, true);
        }
        checkOrder(road, 0, 2, 4, 1, 5, 7, 3, 6);
    }

    private static void checkOrder(BeastRoad road, int... wagons) {
        for (int i = 0; i < wagons.length; i++) {
            due.is("order(" + i + ")", road.order(i), wagons[i]);
        }
        due.is("order(" + wagons.length + ")", road.order(wagons.length), -1);
    }
}
