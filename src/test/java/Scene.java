import java.util.ArrayList;
import java.util.List;

/** Objects that stand at some point of a run, and all that an object answers. */
final class Scene {
    private Scene() {
    }

    /** Something is told of everything: 7 beasts, day 3, 3 towns with laws, a tape, a beast away. */
    static BeastRoad full() {
        BeastRoad road = new BeastRoad();
        tellBeasts(road);
        loadWagons(road);
        tellTowns(road);
        road.wall(9, true);
        road.away(3, 10);
        road.hour();
        road.hour();
        road.look(10);
        return road;
    }

    private static void tellBeasts(BeastRoad road) {
        road.kind(0, 5, 600);
        road.kind(1, 2, 3);
        road.kind(2, 100, 1000);
        road.kind(7, 0, 50);
        road.beast(0, 0);
        road.beast(1, 0);
        road.beast(2, 0);
        road.day();
        road.beast(7, 1);
        road.beast(1, 0);
        road.beast(2, 1);
        road.gone(1, 1);
        road.day();
        road.gone(0, 2);
        road.gone(0, BeastRoad.NONE);
        road.beast(2, 2);
        road.day();
        road.gone(4, 2);
    }

    private static void loadWagons(BeastRoad road) {
        road.bar(0, 2, true);
        road.bar(1, 1, true);
        road.load(0, 0);
        road.load(1, 0);
        road.load(2, 1);
        road.load(5, 1);
        road.load(3, 7);
        road.load(4, 4);
    }

    private static void tellTowns(BeastRoad road) {
        road.town(0, 5, 100);
        road.town(10, 40, 50);
        road.town(14, 60, 80);
        road.way(0, 2, 10);
        road.way(1, 2, 3);
        road.fodder(2);
        Due.feedText(road, "no 6;from 8;to 20;fee 7;per 3");
        road.law(0);
        Due.feedText(road, "most 3");
        road.law(1);
        Due.feedText(road, "no 1;fee 5");
    }

    static BeastRoad withBeasts(int beasts) {
        BeastRoad road = new BeastRoad();
        for (int i = 0; i < beasts; i++) {
            road.beast(0, 0);
        }
        return road;
    }

    static BeastRoad onDay(int now) {
        BeastRoad road = new BeastRoad();
        for (int day = 0; day < now; day++) {
            road.day();
        }
        return road;
    }

    static BeastRoad withTape(String text) {
        BeastRoad road = new BeastRoad();
        road.town(0, 0, 0);
        Due.feedText(road, text);
        return road;
    }

    /** What all calls that only ask answer, in some 250 calls at most. */
    static long[] view(BeastRoad road) {
        List<Long> answers = new ArrayList<>();
        for (int what = 0; what <= 9; what++) {
            answers.add((long) road.count(what));
        }
        viewDays(road, answers);
        viewWagons(road, answers);
        viewTowns(road, answers);
        viewField(road, answers);
        return answers.stream().mapToLong(Long::longValue).toArray();
    }

    private static void viewDays(BeastRoad road, List<Long> answers) {
        int now = road.count(0);
        for (int day = Math.max(0, now - 5); day <= now; day++) {
            answers.add((long) road.ration(day, now));
            answers.add((long) road.ration(day, Math.max(0, now - 1)));
            answers.add((long) road.booked(day));
        }
        for (int beast = 0; beast < road.count(1); beast++) {
            answers.add(road.here(beast, now, now) ? 1L : 0L);
        }
        int lines = road.count(3);
        for (int i = Math.max(0, lines - 3); i <= lines; i++) {
            for (int what = 0; what < 3; what++) {
                answers.add((long) road.line(i, what));
            }
        }
    }

    private static void viewWagons(BeastRoad road, List<Long> answers) {
        for (int wagon = 0; wagon < 8; wagon++) {
            for (int what = 0; what < 3; what++) {
                answers.add((long) road.wagon(wagon, what));
            }
            answers.add((long) road.order(wagon));
        }
    }

    private static void viewTowns(BeastRoad road, List<Long> answers) {
        for (int town = 0; town < road.count(5); town++) {
            answers.add((long) road.tour(town, 0));
            for (int i = 0; i < 3; i++) {
                answers.add((long) road.stop(town, 0, i));
            }
            answers.add((long) road.may(town, 0));
            answers.add((long) road.may(town, 12));
            answers.add((long) road.fee(town));
        }
        answers.add((long) road.fault());
    }

    private static void viewField(BeastRoad road, List<Long> answers) {
        int cells = road.count(7) == BeastRoad.NONE ? 1 : 64;
        for (int cell = 0; cell < cells; cell++) {
            answers.add(road.maybe(cell));
        }
        int where = road.where();
        answers.add((long) where);
        answers.add(road.chance(where, 0));
        answers.add(road.chance(where, 1));
    }
}
