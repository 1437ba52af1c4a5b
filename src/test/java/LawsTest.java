/** Promises 19 to 24: the tape, its faults, laws, fees. */
public final class LawsTest {
    private static final Due due = new Due();

    public static void main(String[] args) {
        feeding();
        feedLimit();
        ending();
        soundTexts();
        wrongTexts();
        everyByteBesides();
        longTape();
        laws();
        verdicts();
        eachForbiddenKind();
        hours();
        fees();
        due.end();
    }

    // Promise 19
    private static void feeding() {
        BeastRoad road = new BeastRoad();
        due.is("zeros alone", road.feed(0, 0, 0, 0, 0), 0);
        due.is("the highest first, zeros left out", road.feed(0x006E006F, 0x20000000, 0, 0, 0x00000037), 4);
        due.is("no 7", road.fault(), -1);
        due.is("bytes", road.count(6), 4);
        due.is("twenty", road.feed(0x20202020, 0x20202020, 0x20202020, 0x20202020, 0x20202020), 24);
        due.is("no 7 and blanks", road.fault(), -1);
        due.is("numbers in their order", road.feed(0x3B000000, 0x6D6F7374, 0x20310000, 0, 0), 31);
        due.is("no 7 ;most 1", road.fault(), -1);
        due.is("negative numbers", road.feed(-1, 0, 0, 0, 0x80000000), 36);
        due.is("most 1 and bytes of 255", road.fault(), 25);
    }

    private static void feedLimit() {
        BeastRoad road = new BeastRoad();
        for (int i = 1; i <= 9; i++) {
            due.is("blanks", road.feed(0x20202020, 0x20202020, 0x20202020, 0x20202020, 0x20202020), 20 * i);
        }
        due.is("199", road.feed(0x20202020, 0x20202020, 0x20202020, 0x20202020, 0x20202000), 199);
        due.is("201", road.feed(0x20200000, 0, 0, 0, 0), -1);
        due.is("nothing came", road.count(6), 199);
        due.is("201, spread", road.feed(32, 0, 0, 0, 32), -1);
        due.is("nothing came", road.count(6), 199);
        due.is("200", road.feed(0, 0, 32, 0, 0), 200);
        due.is("nothing more", road.feed(0, 0, 0, 0, 0), 200);
        due.is("201", road.feed(0, 0, 0, 0, 1), -1);
        due.is("blanks are no laws", road.fault(), -1);
    }

    // Promise 20
    private static void ending() {
        BeastRoad road = new BeastRoad();
        due.yes("0 of 0", road.end(0));
        due.no("1 of 0", road.end(1));
        due.no("-1", road.end(-1));
        Due.feedText(road, "no 1;x");
        due.no("7 of 6", road.end(7));
        due.yes("6 of 6", road.end(6));
        due.is("six", road.count(6), 6);
        due.is("x", road.fault(), 5);
        due.yes("4 of 6", road.end(4));
        due.is("four", road.count(6), 4);
        due.is("no 1", road.fault(), -1);
        due.no("6 of 4", road.end(6));
        due.is("more comes behind them", Due.feedText(road, " ;to 5"), 10);
        due.is("no 1 ;to 5", road.fault(), -1);
        due.no("least", road.end(Integer.MIN_VALUE));
        due.no("most", road.end(Integer.MAX_VALUE));
    }

    // Promise 21
    private static void soundTexts() {
        String[] texts = {"", " ", "      ", "no 0", "no 7", "most 0", "fee 99999", "per 00000", "from 23", "to 99999",
            "no 0;no 1;no 2;no 3;no 4;no 5;no 6;no 7", "  no   3  ;  most   2  ", "no 00007",
            "fee 1;per 2;from 3;to 4;most 5;no 6", "to 4;from 23", "fee 00001"};
        for (String text : texts) {
            due.is("fault of '" + text + "'", faultOf(text), -1);
        }
    }

    private static void wrongTexts() {
        String[] texts = {
            ";", " ;", ";no 1", "no 1;", "no 1;  ", "no 1;;no 2", "no 1; ;no 2", "no 8", "no 9", "no 10", "no",
            "no ", "no1", "no x", "no -1", "no 1x", "no 1 x", "no 1 2", "no 1,no 2", "nox 1", "No 1", "NO 1", "n o 1",
            "fee 100000", "fee 000001", "fee 1;fee 1", "no 1;no 2;no 1", "no 1;no 01", "per 1;  per 2", "most 1;most 2",
            "from 1;to 2;from 3", "to 1 ; to 2", "x", "  x", "no 1;x", "no 1;  x", "no 1;no 9;x", "fees 1", "1", "no\t1",
            "\tno 1", "no 1\t", "no 1;\tno 2", "no 1\n", "fee 1 ;per", "fee 1;p", "most", "mos 1", "to 5 to", "to5",
            "from 1.5", "fee +1", "no 1;fee 1 2;per 1", "no;1", "no ;1", "to 1;from ;", "fee /", "fee :", "fee 1/", "fee 1:",
        };
        int[] faults = {
            0, 1, 0, 5, 7, 5, 6, 0, 0, 0, 0,
            0, 0, 0, 0, 0, 0, 0, 0, 0, 0, 0, 0,
            0, 0, 6, 10, 5, 8, 7,
            12, 7, 0, 2, 5, 7, 5, 0, 0, 0,
            0, 0, 5, 0, 7, 6, 0, 0, 0, 0,
            0, 0, 5, 0, 0, 5, 0, 0, 0, 0,
        };
        due.is("as many faults as texts", faults.length, texts.length);
        for (int i = 0; i < texts.length; i++) {
            due.is("fault of '" + texts[i] + "'", faultOf(texts[i]), faults[i]);
        }
    }

    /** Of all bytes only a blank, a ; and a digit may stand behind "no 1", and only a blank ahead. */
    private static void everyByteBesides() {
        for (char other = 1; other < 256; other++) {
            boolean blank = other == ' ';
            due.is("ahead: " + (int) other, faultOf(other + "no 1"), blank ? -1 : 0);
            due.is("between: " + (int) other, faultOf("no" + other + "1"), blank ? -1 : 0);
            int behind = blank ? -1 : other == ';' ? 5 : 0;
            due.is("behind: " + (int) other, faultOf("no 1" + other), behind);
            due.is("for a ;: " + (int) other, faultOf("no 1" + other + "to 1"), other == ';' ? -1 : 0);
        }
    }

    private static void longTape() {
        String blanks = " ".repeat(189);
        due.is("at the end", faultOf(blanks + "no 1;from 1"), -1);
        due.is("a word cut off", faultOf(blanks + "no 1; fro m"), 195);
        due.is("an end behind blanks", faultOf("no 1;" + " ".repeat(195)), 200);
        due.is("a number at the end", faultOf(" ".repeat(191) + "fee 99999"), -1);
    }

    // Promise 22
    private static void laws() {
        BeastRoad road = new BeastRoad();
        due.no("no town", road.law(0));
        road.town(0, 0, 0);
        road.town(0, 0, 0);
        Due.feedText(road, "fee 12");
        due.no("no town 2", road.law(2));
        due.no("no town -1", road.law(-1));
        due.is("the tape stays", road.count(6), 6);
        due.yes("laws", road.law(1));
        due.is("the tape is empty", road.count(6), 0);
        due.is("there", road.fee(1), 12);
        due.is("not elsewhere", road.fee(0), 0);
        Due.feedText(road, "fee 13;");
        due.no("a fault", road.law(1));
        due.is("the tape stays", road.count(6), 7);
        due.is("laws stay", road.fee(1), 12);
        due.is("fault", road.fault(), 7);
        due.is("laws stay", road.fee(1), 12);
        road.end(6);
        due.is("fault alone makes no laws", road.fault(), -1);
        due.is("laws stay", road.fee(1), 12);
        due.yes("laws anew", road.law(1));
        due.is("anew", road.fee(1), 13);
        Due.feedText(road, "to 5");
        due.yes("others", road.law(1));
        due.is("all are anew", road.fee(1), 0);
        due.is("to", road.may(1, 6), 3);
        due.yes("none", road.law(1));
        due.is("none", road.may(1, 6), 0);
    }

    // Promise 23
    private static void verdicts() {
        BeastRoad road = new BeastRoad();
        road.town(0, 0, 0);
        due.is("no laws", road.may(0, 0), 0);
        Due.feedText(road, "from 6;to 20;most 2;no 5;no 0");
        due.yes("laws", road.law(0));
        due.is("no beasts", road.may(0, 6), 0);
        due.is("no beasts, early", road.may(0, 5), 3);
        road.beast(4, 0);
        road.beast(6, 0);
        due.is("two", road.may(0, 20), 0);
        road.beast(6, 0);
        due.is("three", road.may(0, 20), 2);
        due.is("three, late", road.may(0, 21), 2);
        road.beast(5, 0);
        due.is("a forbidden one", road.may(0, 20), 1);
        due.is("a forbidden one, late", road.may(0, 21), 1);
        road.day();
        road.gone(3, 1);
        due.is("gone now", road.may(0, 20), 2);
        road.gone(0, 0);
        due.is("two now", road.may(0, 20), 0);
        road.gone(3, -1);
        due.is("back", road.may(0, 20), 1);
        road.gone(3, 1);
        road.beast(0, 1);
        due.is("kind 0", road.may(0, 20), 1);
        Due.feedText(road, "most 0");
        road.law(0);
        due.is("most 0", road.may(0, 20), 2);
        for (int beast = 0; beast < 5; beast++) {
            road.gone(beast, 1);
        }
        due.is("none are here", road.may(0, 20), 0);
    }

    /** One beast of each kind: each is found wherever it stands among the others. */
    private static void eachForbiddenKind() {
        BeastRoad road = new BeastRoad();
        road.town(0, 0, 0);
        for (int kind = 0; kind < 8; kind++) {
            road.beast(kind, 0);
        }
        for (int kind = 0; kind < 8; kind++) {
            Due.feedText(road, "no " + kind);
            due.yes("no " + kind, road.law(0));
            due.is("forbidden " + kind, road.may(0, 0), 1);
            road.gone(kind, 0);
            due.is("gone " + kind, road.may(0, 0), 0);
            road.gone(kind, -1);
        }
    }

    private static void hours() {
        BeastRoad road = new BeastRoad();
        due.is("no town", road.may(0, 0), -1);
        road.town(0, 0, 0);
        due.is("hour -1", road.may(0, -1), -1);
        due.is("hour 24", road.may(0, 24), -1);
        due.is("hour 23", road.may(0, 23), 0);
        due.is("town 1", road.may(1, 0), -1);
        due.is("town -1", road.may(-1, 0), -1);
        checkHours(road, "from 8", 8, 23);
        checkHours(road, "to 8", 0, 8);
        checkHours(road, "from 0;to 0", 0, 0);
        checkHours(road, "from 8;to 8", 8, 8);
        checkHours(road, "from 9;to 8", 24, -1);
        checkHours(road, "from 99999", 24, 23);
        checkHours(road, "to 99999", 0, 23);
    }

    private static void checkHours(BeastRoad road, String text, int first, int last) {
        Due.feedText(road, text);
        due.yes(text, road.law(0));
        for (int hour = 0; hour < 24; hour++) {
            due.is(text + " at " + hour, road.may(0, hour), hour >= first && hour <= last ? 0 : 3);
        }
    }

    // Promise 24
    private static void fees() {
        BeastRoad road = new BeastRoad();
        due.is("no town", road.fee(0), -1);
        road.town(0, 0, 0);
        due.is("no laws", road.fee(0), 0);
        due.is("town 1", road.fee(1), -1);
        due.is("town -1", road.fee(-1), -1);
        Due.feedText(road, "per 99999;fee 99999");
        road.law(0);
        due.is("no beasts", road.fee(0), 99_999);
        for (int i = 0; i < 40; i++) {
            road.beast(0, 0);
        }
        due.is("forty", road.fee(0), 41 * 99_999);
        road.gone(17, 0);
        due.is("39", road.fee(0), 40 * 99_999);
        Due.feedText(road, "per 3");
        road.law(0);
        due.is("per alone", road.fee(0), 117);
        Due.feedText(road, "fee 3;no 0;most 1");
        road.law(0);
        due.is("fee alone, forbidden or not", road.fee(0), 3);
        road.day();
        due.is("the next day", road.fee(0), 3);
    }

    private static int faultOf(String text) {
        BeastRoad road = new BeastRoad();
        Due.feedText(road, text);
        return road.fault();
    }
}
