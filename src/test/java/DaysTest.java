/** Promises 1 to 9: kinds, beasts, days, rations, lines. */
public final class DaysTest {
    private static final Due due = new Due();

    public static void main(String[] args) {
        newObject();
        kinds();
        weightInEachWagon();
        beasts();
        goneBeasts();
        goneLimit();
        knownLate();
        rations();
        daysAndLines();
        feedToldAnew();
        lastDay();
        mostLines();
        due.end();
    }

    // Promise 1
    private static void newObject() {
        BeastRoad road = new BeastRoad();
        int[] counts = {0, 0, 0, 0, 0, 0, 0, BeastRoad.NONE, 0, 0};
        for (int what = 0; what < counts.length; what++) {
            due.is("new: count(" + what + ")", road.count(what), counts[what]);
        }
        due.is("new: ration", road.ration(0, 0), 0);
        due.is("new: line", road.line(0, 0), -1_000_000);
        due.is("new: booked", road.booked(0), 0);
        due.is("new: order", road.order(0), -1);
        due.is("new: tour", road.tour(0, 0), -1);
        due.is("new: fault", road.fault(), -1);
        due.is("new: where", road.where(), -1);
        for (int kind = 0; kind < 8; kind++) {
            due.is("new: beast", road.beast(kind, 0), kind);
            due.is("new: FEED is 1", road.ration(0, 0), kind + 1);
            due.yes("new: load", road.load(kind, 0));
            due.is("new: WEIGHT is 1", road.wagon(0, 0), kind + 1);
        }
        due.is("new: SOUND", road.wagon(0, 2), 1);
        for (int cell = 0; cell < 64; cell++) {
            due.no("new: no wall", road.wall(cell, false));
        }
    }

    // Promise 2
    private static void kinds() {
        BeastRoad road = new BeastRoad();
        due.no("kind -1", road.kind(-1, 1, 1));
        due.no("kind 8", road.kind(8, 1, 1));
        due.no("kind least", road.kind(Integer.MIN_VALUE, 1, 1));
        due.no("feed -1", road.kind(0, -1, 1));
        due.no("feed 101", road.kind(0, 101, 1));
        due.no("weight 0", road.kind(0, 1, 0));
        due.no("weight 1001", road.kind(0, 1, 1001));
        due.no("weight most", road.kind(0, 1, Integer.MAX_VALUE));
        due.yes("feed 0, weight 1000", road.kind(7, 0, 1000));
        due.yes("feed 100, weight 1", road.kind(0, 100, 1));
        due.yes("told alike", road.kind(0, 100, 1));
        road.beast(7, 0);
        road.beast(7, 0);
        road.beast(0, 0);
        due.is("feeds", road.ration(0, 0), 100);
        due.yes("load", road.load(0, 4));
        due.yes("load", road.load(1, 4));
        due.is("2,000 are borne", road.wagon(4, 0), 2000);
        due.yes("lighter", road.kind(7, 3, 999));
        due.yes("load", road.load(2, 4));
        due.is("weight told anew", road.wagon(4, 0), 1999);
        due.no("a wagon would hold 2,001", road.kind(7, 50, 1000));
        due.is("its weight stays", road.wagon(4, 0), 1999);
        due.is("its feed stays", road.ration(0, 0), 106);
        due.yes("2,000", road.kind(0, 100, 2));
        due.no("2,001", road.kind(0, 100, 3));
        due.yes("kind in no wagon", road.kind(3, 100, 1000));
    }

    private static void weightInEachWagon() {
        BeastRoad road = new BeastRoad();
        for (int i = 0; i < 3; i++) {
            road.beast(6, 0);
        }
        for (int wagon = 0; wagon < 8; wagon++) {
            for (int beast = 0; beast < 3; beast++) {
                due.yes("load", road.load(beast, wagon));
            }
            due.no("2,001 in wagon " + wagon, road.kind(6, 1, 667));
            due.yes("1,998 in wagon " + wagon, road.kind(6, 1, 666));
            due.is("weight", road.wagon(wagon, 0), 1998);
            road.kind(6, 1, 1);
        }
    }

    // Promise 3
    private static void beasts() {
        BeastRoad road = new BeastRoad();
        due.is("kind -1", road.beast(-1, 0), -1);
        due.is("kind 8", road.beast(8, 0), -1);
        due.is("day -1", road.beast(0, -1), -1);
        due.is("day ahead", road.beast(0, 1), -1);
        due.is("none told", road.count(1), 0);
        road.day();
        due.is("day 2", road.beast(0, 2), -1);
        for (int beast = 0; beast < 40; beast++) {
            due.is("beast", road.beast(beast % 8, beast % 2), beast);
        }
        due.is("a 41st", road.beast(0, 0), -1);
        due.is("forty", road.count(1), 40);
        due.is("here now", road.count(2), 40);
        due.is("here on day 0", road.ration(0, 1), 20);
    }

    // Promise 4
    private static void goneBeasts() {
        BeastRoad road = new BeastRoad();
        for (int i = 0; i < 3; i++) {
            road.day();
        }
        due.no("no beast", road.gone(0, 0));
        road.beast(0, 2);
        due.no("beast -1", road.gone(-1, 2));
        due.no("beast 1", road.gone(1, 2));
        due.no("ahead of its first", road.gone(0, 1));
        due.no("behind now", road.gone(0, 4));
        due.no("-2 is no day", road.gone(0, -2));
        due.no("least", road.gone(0, Integer.MIN_VALUE));
        due.yes("here", road.here(0, 2, 3));
        due.yes("gone now", road.gone(0, 3));
        due.yes("here on 2", road.here(0, 2, 3));
        due.no("gone on 3", road.here(0, 3, 3));
        due.yes("gone from its first on", road.gone(0, 2));
        due.no("never there", road.here(0, 2, 3));
        due.yes("not gone", road.gone(0, -1));
        due.yes("there again", road.here(0, 2, 3));
        due.yes("there again", road.here(0, 3, 3));
        due.yes("not gone, told anew", road.gone(0, -1));
    }

    private static void goneLimit() {
        BeastRoad road = new BeastRoad();
        road.beast(0, 0);
        road.beast(0, 0);
        for (int i = 0; i < 200; i++) {
            due.yes("telling " + i, road.gone(i % 2, i % 4 < 2 ? 0 : -1));
            due.no("refused ones do not count", road.gone(i % 2, 1));
        }
        due.no("a 201st", road.gone(0, 0));
        due.no("a 201st", road.gone(1, -1));
        due.is("as told last", road.count(2), 2);
    }

    // Promise 5
    private static void knownLate() {
        BeastRoad road = new BeastRoad();
        road.beast(0, 0);
        road.day();
        road.day();
        road.beast(0, 1);
        road.gone(0, 1);
        road.day();
        road.gone(0, 3);
        road.day();
        road.gone(0, -1);
        road.gone(0, 2);
        due.yes("q 0: nothing known", road.here(0, 4, 0));
        due.yes("q 1: nothing known", road.here(0, 4, 1));
        due.yes("q 2: here on 0", road.here(0, 0, 2));
        due.no("q 2: gone from 1", road.here(0, 1, 2));
        due.yes("q 3: told anew", road.here(0, 2, 3));
        due.no("q 3: gone from 3", road.here(0, 3, 3));
        due.yes("q 4: the last counts", road.here(0, 1, 4));
        due.no("q 4: the last counts", road.here(0, 2, 4));
        due.no("told on 2 only", road.here(1, 1, 1));
        due.yes("told on 2", road.here(1, 1, 2));
        due.no("not there on 0", road.here(1, 0, 2));
        due.no("day -1", road.here(0, -1, 0));
        due.no("day 5", road.here(1, 5, 4));
        due.no("q -1", road.here(0, 0, -1));
        due.no("q 5", road.here(1, 4, 5));
        due.no("beast 2", road.here(2, 0, 0));
        due.no("beast -1", road.here(-1, 0, 0));
        due.yes("day 4, q 4", road.here(1, 4, 4));
    }

    // Promise 6
    private static void rations() {
        BeastRoad road = new BeastRoad();
        road.kind(0, 10, 1);
        road.kind(1, 3, 1);
        road.beast(0, 0);
        road.day();
        road.beast(1, 0);
        road.beast(1, 1);
        road.gone(0, 1);
        due.is("0 by 0", road.ration(0, 0), 10);
        due.is("1 by 0", road.ration(1, 0), 10);
        due.is("0 by 1", road.ration(0, 1), 13);
        due.is("1 by 1", road.ration(1, 1), 6);
        due.is("day 2", road.ration(2, 1), -1);
        due.is("q 2", road.ration(1, 2), -1);
        due.is("day -1", road.ration(-1, 1), -1);
        due.is("q -1", road.ration(1, -1), -1);
        road.kind(0, 20, 1);
        due.is("feed as told last", road.ration(0, 0), 20);
        due.is("feed as told last", road.ration(0, 1), 23);
    }

    // Promises 7, 8, 9
    private static void daysAndLines() {
        BeastRoad road = new BeastRoad();
        due.is("no lines", road.day(), 0);
        due.is("now", road.count(0), 1);
        road.kind(0, 4, 1);
        road.beast(0, 0);
        due.is("two lines", road.day(), 2);
        due.is("one line", road.day(), 1);
        road.gone(0, 1);
        due.is("two lines", road.day(), 2);
        int[][] lines = {{1, 0, 4}, {1, 1, 4}, {2, 2, 4}, {3, 1, -4}, {3, 2, -4}};
        due.is("lines", road.count(3), lines.length);
        for (int i = 0; i < lines.length; i++) {
            for (int what = 0; what < 3; what++) {
                due.is("line(" + i + ", " + what + ")", road.line(i, what), lines[i][what]);
            }
            due.is("line what 3", road.line(i, 3), -1_000_000);
            due.is("line what -1", road.line(i, -1), -1_000_000);
        }
        due.is("line -1", road.line(-1, 0), -1_000_000);
        due.is("line 5", road.line(5, 0), -1_000_000);
        due.is("line most", road.line(Integer.MAX_VALUE, 2), -1_000_000);
        due.is("booked 0", road.booked(0), 4);
        due.is("booked 1", road.booked(1), 0);
        due.is("booked 3", road.booked(3), 0);
        due.is("booked 4", road.booked(4), 0);
        due.is("booked -1", road.booked(-1), 0);
        due.is("booked 401", road.booked(401), 0);
        due.is("booked most", road.booked(Integer.MAX_VALUE), 0);
        due.is("booked in all", road.count(4), 4);
    }

    private static void feedToldAnew() {
        BeastRoad road = new BeastRoad();
        road.beast(2, 0);
        due.is("day 0", road.day(), 1);
        due.is("day 1", road.day(), 1);
        road.kind(2, 9, 1);
        due.is("all days anew", road.day(), 3);
        due.is("difference", road.line(2, 2), 8);
        due.is("difference", road.line(3, 2), 8);
        due.is("whole", road.line(4, 2), 9);
        due.is("booked", road.count(4), 27);
        due.is("nothing booked yet", road.booked(3), 0);
    }

    private static void lastDay() {
        BeastRoad road = new BeastRoad();
        for (int day = 0; day < 399; day++) {
            road.day();
        }
        road.beast(0, 399);
        due.is("day 399 ends", road.day(), 1);
        due.is("now is 400", road.count(0), 400);
        due.is("beast from 400", road.beast(1, 400), 1);
        due.is("gone from 400", road.gone(0, 400) ? 1 : 0, 1);
        due.is("no day behind", road.day(), -1);
        due.is("now stays", road.count(0), 400);
        due.is("no line", road.count(3), 1);
        due.is("not booked", road.booked(400), 0);
        due.is("booked", road.booked(399), 1);
        due.is("ration", road.ration(400, 400), 1);
        due.is("beast from 401", road.beast(1, 401), -1);
    }

    private static void mostLines() {
        BeastRoad road = new BeastRoad();
        road.beast(0, 0);
        int lines = 0;
        int day = 0;
        while (lines + day + 1 <= 20_000) {
            road.kind(0, 2 + day % 2, 1);
            due.is("each day anew", road.day(), day + 1);
            lines += day + 1;
            day++;
        }
        due.is("lines", road.count(3), lines);
        due.is("the last line", road.line(lines - 1, 1), day - 1);
        int inAll = road.count(4);
        road.kind(0, 50, 1);
        due.is("more than 20,000", road.day(), -1);
        due.is("now stays", road.count(0), day);
        due.is("lines stay", road.count(3), lines);
        due.is("booked stays", road.count(4), inAll);
        due.is("no line more", road.line(lines, 0), -1_000_000);
        fillUp(road, lines, day);
    }

    /** A beast that is there for the last days alone makes lines up to 20,000 just. */
    private static void fillUp(BeastRoad road, int lines, int day) {
        int left = 20_000 - lines;
        road.kind(0, 2 + (day - 1) % 2, 1);
        road.gone(0, day);
        due.is("a late beast", road.beast(1, day - left + 1), 1);
        due.is("20,000 just", road.day(), left);
        due.is("20,000", road.count(3), 20_000);
        due.is("its units", road.line(19_999, 2), 1);
        due.is("one more", road.day(), -1);
        road.gone(1, day + 1);
        due.is("a day without lines", road.day(), 0);
        due.is("now", road.count(0), day + 2);
    }
}
