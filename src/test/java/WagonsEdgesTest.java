/** Promises 10 to 13: each sentence that names a boundary, by a test of its own. */
public final class WagonsEdgesTest {
    private static final Due due = new Due();

    public static void main(String[] args) throws ReflectiveOperationException {
        due.runEach(WagonsEdgesTest.class);
    }

    // ---- Promise 10: load

    static void p10NoSuchBeast() {
        for (int beast : Due.outside(0, 6)) {
            due.denied("load(" + beast + ", 3)", Scene::full, road -> road.load(beast, 3));
            due.denied("load(" + beast + ", NONE)", Scene::full, road -> road.load(beast, BeastRoad.NONE));
        }
        due.no("no beasts at all", new BeastRoad().load(0, 0));
    }

    static void p10NoSuchWagon() {
        for (int wagon : Due.outside(BeastRoad.NONE, 7)) {
            due.denied("load(0, " + wagon + ")", Scene::full, road -> road.load(0, wagon));
            due.denied("load(6, " + wagon + ")", Scene::full, road -> road.load(6, wagon));
        }
    }

    static void p10FirstAndLastWagon() {
        BeastRoad road = Scene.withBeasts(2);
        due.yes("wagon 0", road.load(0, 0));
        due.yes("wagon 7", road.load(1, 7));
        due.is("in 0", road.wagon(0, 1), 1);
        due.is("in 7", road.wagon(7, 1), 1);
    }

    static void p10ItIsInThatWagon() {
        due.denied("load(0, 0)", Scene::full, road -> road.load(0, 0));
        due.denied("load(3, 7)", Scene::full, road -> road.load(3, 7));
        due.denied("load(2, 1), which is full", Scene::full, road -> road.load(2, 1));
    }

    static void p10ItIsInNoWagon() {
        due.denied("load(6, NONE)", Scene::full, road -> road.load(6, BeastRoad.NONE));
        BeastRoad road = Scene.withBeasts(1);
        road.load(0, 0);
        due.yes("out", road.load(0, BeastRoad.NONE));
        due.no("out again", road.load(0, BeastRoad.NONE));
        due.yes("in again", road.load(0, 0));
    }

    static void p10AWagonMayHold2000() {
        BeastRoad road = held(1000, 1000);
        due.yes("1,000 more", road.load(1, 0));
        due.is("WEIGHT", road.wagon(0, 0), 2000);
        due.is("BEASTS", road.wagon(0, 1), 2);
    }

    static void p10AWagonWouldHold2001() {
        BeastRoad road = held(1000, 1000);
        road.load(1, 0);
        due.no("1 more", road.load(2, 0));
        due.is("WEIGHT", road.wagon(0, 0), 2000);
        due.is("in wagons", road.count(9), 2);
        due.denied("load(3, 1) on the full scene", Scene::full, full -> full.load(3, 1));
        due.denied("load(6, 1) on the full scene", Scene::full, full -> full.load(6, 1));
    }

    /** Beast 0 in wagon 0, beast 1 out, of such weights; beast 2 of weight 1. */
    private static BeastRoad held(int first, int second) {
        BeastRoad road = new BeastRoad();
        road.kind(0, 1, first);
        road.kind(1, 1, second);
        for (int kind = 0; kind < 3; kind++) {
            road.beast(kind, 0);
        }
        road.load(0, 0);
        return road;
    }

    static void p10EveryWagonHolds2000() {
        BeastRoad road = Scene.withBeasts(17);
        road.kind(0, 1, 1000);
        for (int beast = 0; beast < 16; beast++) {
            due.yes("load(" + beast + ")", road.load(beast, beast / 2));
        }
        for (int wagon = 0; wagon < 8; wagon++) {
            due.no("a third in " + wagon, road.load(16, wagon));
            due.is("WEIGHT", road.wagon(wagon, 0), 2000);
        }
    }

    static void p10FortyInOneWagon() {
        BeastRoad road = Scene.withBeasts(40);
        for (int beast = 0; beast < 40; beast++) {
            due.yes("load(" + beast + ", 7)", road.load(beast, 7));
        }
        due.is("BEASTS", road.wagon(7, 1), 40);
        due.is("in wagons", road.count(9), 40);
    }

    static void p10FromAnotherOne() {
        BeastRoad road = held(1000, 1000);
        due.yes("load(0, 7)", road.load(0, 7));
        due.is("left", road.wagon(0, 1), 0);
        due.is("came", road.wagon(7, 1), 1);
        due.is("in wagons", road.count(9), 1);
    }

    static void p10RefusedItStaysInTheOther() {
        BeastRoad road = Scene.withBeasts(3);
        road.kind(0, 1, 1000);
        road.load(0, 0);
        road.load(1, 1);
        road.load(2, 1);
        due.no("2,000 are there", road.load(0, 1));
        due.is("where it was", road.wagon(0, 1), 1);
        due.is("WEIGHT there", road.wagon(0, 0), 1000);
    }

    static void p10OutOfAFullWagonMakesRoom() {
        BeastRoad road = Scene.withBeasts(3);
        road.kind(0, 1, 1000);
        road.load(0, 0);
        road.load(1, 0);
        due.no("full", road.load(2, 0));
        due.yes("out", road.load(0, BeastRoad.NONE));
        due.yes("room", road.load(2, 0));
    }

    static void p10GoneBeastsAreHeldStill() {
        BeastRoad road = Scene.withBeasts(3);
        road.kind(0, 1, 1000);
        road.load(0, 0);
        road.load(1, 0);
        road.gone(0, 0);
        due.no("full", road.load(2, 0));
        due.yes("a gone one goes out", road.load(0, BeastRoad.NONE));
        due.yes("and into another", road.load(0, 3));
    }

    // ---- Promise 11: bar

    static void p11NoSuchKind() {
        for (int kind : Due.outside(0, 7)) {
            for (boolean is : new boolean[] {true, false}) {
                due.denied("bar(" + kind + ", 0, " + is + ")", Scene::full, road -> road.bar(kind, 0, is));
                due.denied("bar(0, " + kind + ", " + is + ")", Scene::full, road -> road.bar(0, kind, is));
                due.denied("bar(" + kind + " twice, " + is + ")", Scene::full, road -> road.bar(kind, kind, is));
            }
        }
    }

    static void p11EachPairOfKinds() {
        for (int one = 0; one < 8; one++) {
            for (int other = 0; other < 8; other++) {
                BeastRoad road = twoKinds(one, other);
                due.is("SOUND", road.wagon(0, 2), 1);
                due.yes("bar", road.bar(one, other, true));
                due.is("not SOUND: " + one + ", " + other, road.wagon(0, 2), 0);
                due.yes("bar no more", road.bar(one, other, false));
                due.is("SOUND", road.wagon(0, 2), 1);
            }
        }
    }

    private static BeastRoad twoKinds(int one, int other) {
        BeastRoad road = new BeastRoad();
        road.beast(one, 0);
        road.beast(other, 0);
        road.load(0, 0);
        road.load(1, 0);
        return road;
    }

    static void p11TheyBarAlready() {
        due.denied("bar(0, 2, true)", Scene::full, road -> road.bar(0, 2, true));
        due.denied("bar(2, 0, true), either way", Scene::full, road -> road.bar(2, 0, true));
    }

    static void p11TheyDoNotBar() {
        due.denied("bar(0, 1, false)", Scene::full, road -> road.bar(0, 1, false));
        BeastRoad road = new BeastRoad();
        road.bar(3, 4, true);
        due.yes("no more, either way", road.bar(4, 3, false));
        due.no("no more already", road.bar(3, 4, false));
        due.no("no more already", road.bar(4, 3, false));
    }

    static void p11AKindBarsItself() {
        due.denied("bar(1, 1, true)", Scene::full, road -> road.bar(1, 1, true));
        due.denied("bar(0, 0, false)", Scene::full, road -> road.bar(0, 0, false));
        BeastRoad road = new BeastRoad();
        due.yes("bar(7, 7, true)", road.bar(7, 7, true));
        due.no("again", road.bar(7, 7, true));
        due.yes("no more", road.bar(7, 7, false));
        due.no("no more, again", road.bar(7, 7, false));
    }

    // ---- Promise 12: wagon

    static void p12NoSuchWagon() {
        BeastRoad road = Scene.full();
        for (int wagon : Due.outside(0, 7)) {
            for (int what = 0; what < 3; what++) {
                due.is("wagon(" + wagon + ", " + what + ")", road.wagon(wagon, what), -1);
            }
        }
    }

    static void p12NoSuchWhat() {
        BeastRoad road = Scene.full();
        for (int what : Due.outside(0, 2)) {
            due.is("wagon(0, " + what + ")", road.wagon(0, what), -1);
            due.is("wagon(7, " + what + ")", road.wagon(7, what), -1);
        }
    }

    static void p12AnEmptyWagon() {
        BeastRoad road = Scene.full();
        for (int kind = 0; kind < 8; kind++) {
            road.bar(kind, kind, true);
        }
        due.is("WEIGHT", road.wagon(3, 0), 0);
        due.is("BEASTS", road.wagon(3, 1), 0);
        due.is("SOUND", road.wagon(3, 2), 1);
    }

    static void p12OneOfAKindThatBarsItself() {
        BeastRoad road = Scene.withBeasts(2);
        road.bar(0, 0, true);
        road.load(0, 0);
        due.is("one alone", road.wagon(0, 2), 1);
        road.load(1, 0);
        due.is("two", road.wagon(0, 2), 0);
        road.load(0, BeastRoad.NONE);
        due.is("one alone", road.wagon(0, 2), 1);
    }

    static void p12TheFirstAndTheLastOfFortyBar() {
        BeastRoad road = new BeastRoad();
        road.beast(1, 0);
        for (int i = 0; i < 38; i++) {
            road.beast(0, 0);
        }
        road.beast(2, 0);
        for (int beast = 0; beast < 40; beast++) {
            road.load(beast, 6);
        }
        road.bar(1, 2, true);
        due.is("not SOUND", road.wagon(6, 2), 0);
        road.load(39, 5);
        due.is("SOUND", road.wagon(6, 2), 1);
        due.is("SOUND", road.wagon(5, 2), 1);
    }

    static void p12ThoseInOtherWagonsOrNoneDoNotCount() {
        BeastRoad road = twoKinds(0, 1);
        road.beast(2, 0);
        road.bar(0, 2, true);
        due.is("2 is in none", road.wagon(0, 2), 1);
        road.load(2, 1);
        due.is("2 is in another", road.wagon(0, 2), 1);
        due.is("2 is alone", road.wagon(1, 2), 1);
        due.is("WEIGHT", road.wagon(0, 0), 2);
    }

    static void p12WeightAsToldLast() {
        BeastRoad road = twoKinds(0, 1);
        road.kind(0, 1, 1000);
        road.kind(1, 1, 1000);
        due.is("WEIGHT", road.wagon(0, 0), 2000);
        road.kind(1, 1, 1);
        due.is("WEIGHT", road.wagon(0, 0), 1001);
    }

    // ---- Promise 13: order

    static void p13NoWagonHoldsSomething() {
        for (int i = -1; i <= 8; i++) {
            due.is("order(" + i + ")", Scene.withBeasts(3).order(i), -1);
        }
    }

    static void p13OneWagon() {
        for (int wagon = 0; wagon < 8; wagon++) {
            BeastRoad road = Scene.withBeasts(1);
            road.load(0, wagon);
            due.is("order(0)", road.order(0), wagon);
            due.is("order(1)", road.order(1), -1);
        }
    }

    static void p13OneWagonThatIsNotSound() {
        BeastRoad road = twoKinds(0, 1);
        road.bar(0, 1, true);
        due.is("order(0)", road.order(0), 0);
        due.is("order(1)", road.order(1), -1);
    }

    static void p13NoSuchPlace() {
        BeastRoad road = Scene.full();
        due.is("the last", road.order(3), 4);
        for (int i : Due.outside(0, 3)) {
            due.is("order(" + i + ")", road.order(i), -1);
        }
    }

    static void p13EightWagons() {
        BeastRoad road = oneInEach();
        for (int i = 0; i < 8; i++) {
            due.is("order(" + i + ")", road.order(i), i);
        }
        for (int i : Due.outside(0, 7)) {
            due.is("order(" + i + ")", road.order(i), -1);
        }
    }

    /** Beast k, of kind k, in wagon k. */
    private static BeastRoad oneInEach() {
        BeastRoad road = new BeastRoad();
        for (int kind = 0; kind < 8; kind++) {
            road.beast(kind, 0);
            road.load(kind, kind);
        }
        return road;
    }

    static void p13ThereIsNone() {
        BeastRoad road = oneInEach();
        for (int kind = 0; kind < 7; kind++) {
            road.bar(7, kind, true);
        }
        for (int i = 0; i < 8; i++) {
            due.is("order(" + i + ")", road.order(i), -1);
        }
        road.bar(7, 0, false);
        checkOrder(road, 1, 2, 3, 4, 5, 6, 0, 7);
    }

    static void p13TwoWagonsThatBar() {
        BeastRoad road = new BeastRoad();
        road.beast(0, 0);
        road.beast(1, 0);
        road.load(0, 0);
        road.load(1, 7);
        checkOrder(road, 0, 7);
        road.bar(1, 0, true);
        checkOrder(road);
    }

    static void p13WagonsOfAKindThatBarsItself() {
        BeastRoad road = Scene.withBeasts(2);
        road.beast(1, 0);
        road.load(0, 0);
        road.load(1, 1);
        road.bar(0, 0, true);
        checkOrder(road);
        road.load(2, 2);
        checkOrder(road, 0, 2, 1);
    }

    static void p13OneBeastOfManyBars() {
        BeastRoad road = oneInEach();
        for (int kind = 3; kind < 8; kind++) {
            road.load(kind, 0);
        }
        road.bar(7, 1, true);
        checkOrder(road, 0, 2, 1);
        road.bar(7, 2, true);
        checkOrder(road);
    }

    static void p13EmptyWagonsDoNotStandBetween() {
        BeastRoad road = new BeastRoad();
        road.beast(0, 0);
        road.beast(1, 0);
        road.load(0, 0);
        road.load(1, 2);
        road.bar(0, 1, true);
        checkOrder(road);
    }

    static void p13AWagonThatHoldsNothingAnyMore() {
        BeastRoad road = oneInEach();
        due.is("order(0)", road.order(0), 0);
        road.load(0, BeastRoad.NONE);
        checkOrder(road, 1, 2, 3, 4, 5, 6, 7);
        road.load(7, 6);
        checkOrder(road, 1, 2, 3, 4, 5, 6);
        road.bar(7, 5, true);
        checkOrder(road, 1, 2, 3, 5, 4, 6);
        road.load(7, 0);
        checkOrder(road, 0, 1, 2, 3, 4, 5, 6);
    }

    static void p13TheLowerWhereTheyFirstDiffer() {
        BeastRoad road = oneInEach();
        road.bar(0, 1, true);
        checkOrder(road, 0, 2, 1, 3, 4, 5, 6, 7);
        road.bar(6, 7, true);
        checkOrder(road, 0, 2, 1, 3, 4, 6, 5, 7);
    }

    /** All but one order are barred, and it is the last by numbers. */
    static void p13TheOnlyOrderIsFound() {
        BeastRoad road = oneInEach();
        for (int one = 0; one < 8; one++) {
            for (int other = one + 2; other < 8; other++) {
                road.bar(one, other, true);
            }
        }
        checkOrder(road, 0, 1, 2, 3, 4, 5, 6, 7);
        road.bar(0, 1, true);
        road.bar(0, 7, false);
        checkOrder(road, 0, 7, 6, 5, 4, 3, 2, 1);
    }

    private static void checkOrder(BeastRoad road, int... wagons) {
        for (int i = 0; i < wagons.length; i++) {
            due.is("order(" + i + ")", road.order(i), wagons[i]);
        }
        due.is("order(" + wagons.length + ")", road.order(wagons.length), -1);
    }
}
