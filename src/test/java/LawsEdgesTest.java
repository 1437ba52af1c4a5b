/** Promises 19 to 24: each sentence that names a boundary, by a test of its own. */
public final class LawsEdgesTest {
    private static final int BLANKS = 0x20202020;
    private static final Due due = new Due();

    public static void main(String[] args) throws ReflectiveOperationException {
        due.runEach(LawsEdgesTest.class);
    }

    private static String blanks(int count) {
        return " ".repeat(count);
    }

    private static void faultIs(String text, int fault) {
        due.is("fault of '" + text + "'", Scene.withTape(text).fault(), fault);
    }

    private static BeastRoad withLaw(String text) {
        BeastRoad road = Scene.withTape(text);
        due.yes("law of '" + text + "'", road.law(0));
        return road;
    }

    // ---- Promise 19: feed

    static void p19TwentyBytes() {
        due.is("feed", new BeastRoad().feed(-1, -1, -1, -1, -1), 20);
    }

    static void p19NoBytesBut0() {
        BeastRoad road = new BeastRoad();
        due.is("feed on an empty tape", road.feed(0, 0, 0, 0, 0), 0);
        Due.feedText(road, "no 1");
        due.is("feed behind four", road.feed(0, 0, 0, 0, 0), 4);
        due.is("fault", road.fault(), -1);
    }

    static void p19BytesOf0AreLeftOutWhereverTheyStand() {
        for (int at = 0; at < 20; at++) {
            int[] numbers = {-1, -1, -1, -1, -1};
            numbers[at / 4] &= ~(255 << 8 * (3 - at % 4));
            BeastRoad road = new BeastRoad();
            due.is("0 at " + at, road.feed(numbers[0], numbers[1], numbers[2], numbers[3], numbers[4]), 19);
            for (int i = 0; i < 5; i++) {
                numbers[i] = ~numbers[i];
            }
            due.is("0 but at " + at, road.feed(numbers[0], numbers[1], numbers[2], numbers[3], numbers[4]), 20);
        }
    }

    static void p19TheHighestFirst() {
        BeastRoad road = new BeastRoad();
        due.is("'no 1'", road.feed('n' << 24 | 'o' << 16 | ' ' << 8 | '1', 0, 0, 0, 0), 4);
        due.is("fault", road.fault(), -1);
        road.end(0);
        due.is("'1 on'", road.feed('1' << 24 | ' ' << 16 | 'o' << 8 | 'n', 0, 0, 0, 0), 4);
        due.is("fault", road.fault(), 0);
    }

    static void p19TheNumbersInTheirOrder() {
        BeastRoad road = new BeastRoad();
        due.is("a byte of each", road.feed('n', 'o', ' ', '7', ';'), 5);
        due.is("the end is missing", road.fault(), 5);
        road.end(4);
        due.is("'no 7'", road.fault(), -1);
    }

    static void p19BytesAbove127() {
        BeastRoad road = new BeastRoad();
        due.is("255 first", road.feed(0xFF000000, 0, 0, 0, 0), 1);
        due.is("128 first", road.feed(Integer.MIN_VALUE, 0, 0, 0, 0), 2);
        due.is("127 first", road.feed(Integer.MAX_VALUE, 0, 0, 0, 0), 6);
    }

    static void p19TwoHundredJust() {
        BeastRoad road = Scene.withTape(blanks(180));
        due.is("200", road.feed(BLANKS, BLANKS, BLANKS, BLANKS, BLANKS), 200);
        BeastRoad other = Scene.withTape(blanks(199));
        due.is("200", other.feed(0, 0, 0, 0, ' '), 200);
    }

    static void p19MoreThan200() {
        due.refused("1 to 200", () -> Scene.withTape(blanks(200)), road -> road.feed(0, 0, ' ', 0, 0));
        due.refused("2 to 199", () -> Scene.withTape(blanks(199)), road -> road.feed(' ', 0, 0, 0, ' '));
        due.refused("20 to 181", () -> Scene.withTape(blanks(181)),
                road -> road.feed(BLANKS, BLANKS, BLANKS, BLANKS, BLANKS));
    }

    /** Each byte but 0 counts, wherever it stands. */
    static void p19OneByteToAFullTape() {
        for (int value = 1; value < 256; value++) {
            BeastRoad full = Scene.withTape(blanks(200));
            for (int at = 0; at < 20; at++) {
                due.is(value + " at " + at + " to 200", feedOne(full, value, at), -1);
                due.is("bytes", full.count(6), 200);
            }
            BeastRoad nearly = Scene.withTape(blanks(199));
            due.is(value + " to 199", feedOne(nearly, value, value % 20), 200);
            due.is("fault", nearly.fault(), value == ' ' ? -1 : 199);
        }
    }

    private static int feedOne(BeastRoad road, int value, int at) {
        int[] numbers = new int[5];
        numbers[at / 4] = value << 8 * (3 - at % 4);
        return road.feed(numbers[0], numbers[1], numbers[2], numbers[3], numbers[4]);
    }

    static void p19NothingOfARefusedFeedComes() {
        BeastRoad road = Scene.withTape(blanks(195) + "no 1");
        due.is("refused", road.feed(';' << 24 | 'x' << 16, 0, 0, 0, 0), -1);
        due.is("bytes", road.count(6), 199);
        due.is("fault", road.fault(), -1);
        due.is("there is room for one", road.feed(';', 0, 0, 0, 0), 200);
        due.is("the end is missing", road.fault(), 200);
    }

    static void p19BytesOf0ToAFullTape() {
        due.is("200", Scene.withTape(blanks(200)).feed(0, 0, 0, 0, 0), 200);
    }

    // ---- Promise 20: end

    static void p20NoSuchLength() {
        for (int n : Due.outside(0, 10)) {
            due.denied("end(" + n + ") of 10", Scene::full, road -> road.end(n));
        }
        for (int n : Due.outside(0, 0)) {
            due.no("end(" + n + ") of 0", new BeastRoad().end(n));
        }
        for (int n : Due.outside(0, 200)) {
            due.no("end(" + n + ") of 200", Scene.withTape(blanks(200)).end(n));
        }
    }

    static void p20TheWholeTape() {
        BeastRoad road = Scene.full();
        due.yes("end(10)", road.end(10));
        due.is("bytes", road.count(6), 10);
        due.yes("0 of 0", new BeastRoad().end(0));
        due.yes("200 of 200", Scene.withTape(blanks(200)).end(200));
    }

    static void p20NoBytes() {
        BeastRoad road = Scene.full();
        due.yes("end(0)", road.end(0));
        due.is("bytes", road.count(6), 0);
        due.no("the others do not come back", road.end(10));
        due.no("nor one of them", road.end(1));
    }

    static void p20AFullTapeHasRoomAgain() {
        BeastRoad road = Scene.withTape(blanks(200));
        due.is("full", road.feed(' ', 0, 0, 0, 0), -1);
        due.yes("end(199)", road.end(199));
        due.is("room for one", road.feed('x', 0, 0, 0, 0), 200);
        due.is("it stands behind the others", road.fault(), 199);
    }

    // ---- Promise 21: fault

    static void p21NoBytes() {
        faultIs("", -1);
    }

    static void p21NoBytesButBlanks() {
        faultIs(" ", -1);
        faultIs(blanks(200), -1);
    }

    static void p21ABlankIsByte32Alone() {
        for (char other = 1; other < 256; other++) {
            if (other != ' ') {
                faultIs(String.valueOf(other), 0);
                faultIs(" " + other + "no 1", 1);
                faultIs("no" + other + "1", 0);
                faultIs("no 1;" + other, 5);
            }
        }
    }

    static void p21KOutOfBounds() {
        for (String k : new String[] {"8", "9", "10", "32", "00008", "65536", "99999", "-1"}) {
            faultIs("no " + k, 0);
            faultIs("no 1; no " + k, 6);
        }
    }

    static void p21FirstAndLastK() {
        faultIs("no 0", -1);
        faultIs("no 7", -1);
    }

    static void p21TheMostDigits() {
        for (String word : new String[] {"most", "fee", "per", "from", "to"}) {
            faultIs(word + " 0", -1);
            faultIs(word + " 99999", -1);
            faultIs(word + " 00000", -1);
        }
    }

    static void p21MoreThanFiveDigits() {
        for (String word : new String[] {"no", "most", "fee", "per", "from", "to"}) {
            faultIs(word + " 000001", 0);
            faultIs(word + " 100000", 0);
            faultIs(word + " 4294967296", 0);
            faultIs(word + " 4294967297", 0);
        }
    }

    static void p21NoDigits() {
        for (String word : new String[] {"no", "most", "fee", "per", "from", "to"}) {
            faultIs(word, 0);
            faultIs(word + " ", 0);
            faultIs(word + " ;", 0);
            faultIs(word + ";", 0);
            faultIs("  " + word + " x", 2);
        }
    }

    static void p21BytesBesideTheDigits() {
        faultIs("fee /", 0);
        faultIs("fee :", 0);
        faultIs("fee 0/", 0);
        faultIs("fee 9:", 0);
        faultIs("fee 0123456789", 0);
        for (char digit = '0'; digit <= '9'; digit++) {
            faultIs("fee " + digit, -1);
        }
    }

    static void p21SmallLetters() {
        for (String word : new String[] {"no", "most", "fee", "per", "from", "to"}) {
            faultIs(word + " 1", -1);
            faultIs(word.toUpperCase() + " 1", 0);
            for (int i = 0; i < word.length(); i++) {
                char[] letters = word.toCharArray();
                letters[i] -= 32;
                faultIs(new String(letters) + " 1", 0);
                letters[i] += 33;
                faultIs(new String(letters) + " 1", 0);
            }
            faultIs(word + word.charAt(word.length() - 1) + " 1", 0);
            faultIs(word.substring(0, word.length() - 1) + " 1", 0);
            faultIs(word.substring(1) + " 1", 0);
        }
    }

    static void p21AWordCutOffByTheEnd() {
        for (String word : new String[] {"no", "most", "fee", "per", "from", "to"}) {
            for (int length = 1; length <= word.length(); length++) {
                faultIs("no 1;" + word.substring(0, length), 5);
                faultIs(blanks(200 - length) + word.substring(0, length), 200 - length);
            }
        }
    }

    /** What was on the tape behind its end is no part of it. */
    static void p21AWordCutOffByEnd() {
        BeastRoad road = Scene.withTape("no 1;most 25");
        int[] faults = {-1, 0, 0, 0, -1, 5, 5, 5, 5, 5, 5, -1, -1};
        for (int n = 12; n >= 0; n--) {
            road.end(n);
            due.is("the first " + n, road.fault(), faults[n]);
        }
    }

    static void p21NoBlankBehindTheWord() {
        for (String word : new String[] {"no", "most", "fee", "per", "from", "to"}) {
            faultIs(word + "1", 0);
        }
    }

    static void p21ManyBlanksBehindTheWord() {
        faultIs("no  1", -1);
        faultIs("no" + blanks(197) + "1", -1);
    }

    static void p21BlanksAroundAll() {
        faultIs(" no 1 ", -1);
        faultIs("   no   1   ;   to   2   ", -1);
        faultIs(blanks(196) + "no 1", -1);
        faultIs("no 1" + blanks(196), -1);
    }

    static void p21BlanksWithinAWordOrNumber() {
        faultIs("n o 1", 0);
        faultIs("fee 1 2", 0);
        faultIs("fee 1 2;per 1", 0);
    }

    static void p21EachSortOnce() {
        faultIs("no 1;most 1;fee 1;per 1;from 1;to 1", -1);
        for (String word : new String[] {"most", "fee", "per", "from", "to"}) {
            String clause = word + " 1";
            faultIs(clause + ";" + clause, clause.length() + 1);
            faultIs(clause + ";no 1; " + word + " 2", clause.length() + 7);
            faultIs(word + " 0;" + word + " 0", clause.length() + 1);
        }
    }

    static void p21EachNoOnceForEachK() {
        faultIs("no 0;no 1;no 2;no 3;no 4;no 5;no 6;no 7", -1);
        for (int k = 0; k < 8; k++) {
            faultIs("no " + k + ";no " + (k + 1) % 8 + ";  no " + k, 12);
        }
    }

    static void p21TheFirstByteOfTheClauseBlanksPassedOver() {
        faultIs("x", 0);
        faultIs("   x", 3);
        faultIs("no 1;x", 5);
        faultIs("no 1;   x", 8);
        faultIs(blanks(199) + "x", 199);
    }

    static void p21TheFirstClauseThatIsWrong() {
        faultIs("no 1;no 8;x", 5);
        faultIs("no 8;no 8", 0);
        faultIs("x;", 0);
        faultIs("no 1;no 1;", 5);
    }

    static void p21ASemicolonWhereAClauseShouldBegin() {
        faultIs(";", 0);
        faultIs("  ;", 2);
        faultIs(";no 1", 0);
        faultIs("no 1;;no 2", 5);
        faultIs("no 1; ;", 6);
        faultIs(";".repeat(200), 0);
    }

    static void p21TheEndIfAClauseIsMissing() {
        faultIs("no 1;", 5);
        faultIs("no 1;   ", 8);
        faultIs("no 1;no 2;", 10);
        faultIs("no 1;" + blanks(195), 200);
        faultIs(blanks(195) + "no 1;", 200);
    }

    static void p21WhatStandsBehindTheNumber() {
        for (char other = 1; other < 256; other++) {
            boolean goesOn = other == ';' || other == ' ';
            if (!goesOn) {
                faultIs(" no 1 " + other, 1);
                faultIs(" no 1 " + other + ";no 2", 1);
            }
        }
        faultIs("no 1 ;no 2", -1);
        faultIs("no 1 no 2", 0);
        faultIs("no 1 no 2;x", 0);
    }

    static void p21ATapeOf200Bytes() {
        String clauses = "no 0;no 1;no 2;no 3;no 4;no 5;no 6;no 7;most 1;fee 1;per 1;from 1;to 1";
        faultIs(clauses + blanks(200 - clauses.length()), -1);
        faultIs(blanks(200 - clauses.length()) + clauses, -1);
        faultIs(blanks(199 - clauses.length()) + clauses + ";", 200);
        faultIs(blanks(199 - clauses.length()) + clauses + "x", 199 - 4);
    }

    static void p21AskingChangesNothing() {
        BeastRoad road = withLaw("fee 3");
        Due.feedText(road, "fee 9;x");
        due.is("fault", road.fault(), 6);
        due.is("again", road.fault(), 6);
        due.is("bytes", road.count(6), 7);
        due.is("the law stays", road.fee(0), 3);
    }

    // ---- Promise 22: law

    static void p22NoSuchTown() {
        for (int town : Due.outside(0, 2)) {
            due.denied("law(" + town + ")", Scene::full, road -> road.law(town));
        }
        BeastRoad road = new BeastRoad();
        due.no("no towns at all", road.law(0));
        for (int town = 0; town < 8; town++) {
            road.town(0, 0, 0);
            due.yes("law(" + town + ")", road.law(town));
            due.no("law(" + (town + 1) + ")", road.law(town + 1));
        }
    }

    static void p22AFault() {
        for (String text : new String[] {"x", ";", "fee 1;", "fee 1;fee 1", "no 8", "fee 1;per 999999"}) {
            due.denied("law(0) of '" + text + "'", () -> lawThenTape(text), road -> road.law(0));
        }
    }

    private static BeastRoad lawThenTape(String text) {
        BeastRoad road = withLaw("fee 77;from 5");
        Due.feedText(road, text);
        return road;
    }

    static void p22TheTapeIsEmptyThen() {
        BeastRoad road = withLaw("fee 77;from 5");
        due.is("bytes", road.count(6), 0);
        due.is("fault", road.fault(), -1);
        due.no("end(1)", road.end(1));
    }

    static void p22AnEmptyTape() {
        BeastRoad road = withLaw("fee 77;from 5");
        due.is("fee", road.fee(0), 77);
        due.yes("law(0) of no bytes", road.law(0));
        due.is("fee", road.fee(0), 0);
        due.is("may", road.may(0, 0), 0);
    }

    static void p22ATapeOfBlanks() {
        BeastRoad road = withLaw("fee 77;from 5");
        Due.feedText(road, blanks(200));
        due.yes("law(0) of 200 blanks", road.law(0));
        due.is("bytes", road.count(6), 0);
        due.is("fee", road.fee(0), 0);
    }

    static void p22TheOldLawsAreNoMore() {
        BeastRoad road = Scene.withBeasts(40);
        road.town(0, 0, 0);
        Due.feedText(road, "no 0;most 1;fee 5;per 1;from 9;to 10");
        road.law(0);
        due.is("may", road.may(0, 9), 1);
        Due.feedText(road, "no 1");
        due.yes("law(0)", road.law(0));
        for (int hour = 0; hour < 24; hour++) {
            due.is("may at " + hour, road.may(0, hour), 0);
        }
        due.is("fee", road.fee(0), 0);
    }

    static void p22OfThatTownAlone() {
        for (int town = 0; town < 8; town++) {
            BeastRoad road = new BeastRoad();
            for (int i = 0; i < 8; i++) {
                road.town(0, 0, 0);
            }
            Due.feedText(road, "fee 9");
            road.law(town);
            for (int i = 0; i < 8; i++) {
                due.is("fee(" + i + ")", road.fee(i), i == town ? 9 : 0);
            }
        }
    }

    // ---- Promise 23: may

    static void p23NoSuchTown() {
        BeastRoad road = Scene.full();
        for (int town : Due.outside(0, 2)) {
            due.is("may(" + town + ", 12)", road.may(town, 12), -1);
        }
        due.is("no towns at all", new BeastRoad().may(0, 0), -1);
    }

    static void p23NoSuchHour() {
        BeastRoad road = Scene.full();
        for (int hour : Due.outside(0, 23)) {
            due.is("may(0, " + hour + ")", road.may(0, hour), -1);
            due.is("may(2, " + hour + "), without laws", road.may(2, hour), -1);
        }
        due.is("hour 0", road.may(2, 0), 0);
        due.is("hour 23", road.may(2, 23), 0);
    }

    static void p23NoBeastsHere() {
        BeastRoad road = withLaw("no 0;no 1;no 2;no 3;no 4;no 5;no 6;no 7;most 0");
        due.is("none told", road.may(0, 0), 0);
        road.beast(0, 0);
        due.is("one", road.may(0, 0), 1);
        road.gone(0, 0);
        due.is("gone", road.may(0, 0), 0);
    }

    static void p23JustAsManyAsMost() {
        BeastRoad road = withLaw("most 2");
        road.beast(0, 0);
        due.is("1", road.may(0, 0), 0);
        road.beast(0, 0);
        due.is("2", road.may(0, 0), 0);
        road.beast(0, 0);
        due.is("3", road.may(0, 0), 2);
    }

    static void p23MostOf0() {
        BeastRoad road = withLaw("most 0");
        due.is("0", road.may(0, 0), 0);
        road.beast(0, 0);
        due.is("1", road.may(0, 0), 2);
    }

    static void p23MostOf39And40() {
        BeastRoad road = Scene.withBeasts(40);
        road.town(0, 0, 0);
        Due.feedText(road, "most 40");
        road.law(0);
        due.is("40", road.may(0, 0), 0);
        Due.feedText(road, "most 39");
        road.law(0);
        due.is("39", road.may(0, 0), 2);
        Due.feedText(road, "most 99999");
        road.law(0);
        due.is("99,999", road.may(0, 0), 0);
    }

    static void p23BelowFrom() {
        checkHours("from 0", 0, 23);
        checkHours("from 1", 1, 23);
        checkHours("from 23", 23, 23);
        checkHours("from 24", 24, 23);
        checkHours("from 99999", 24, 23);
    }

    static void p23AboveTo() {
        checkHours("to 0", 0, 0);
        checkHours("to 22", 0, 22);
        checkHours("to 23", 0, 23);
        checkHours("to 24", 0, 23);
        checkHours("to 99999", 0, 23);
    }

    static void p23FromAndTo() {
        checkHours("from 8;to 8", 8, 8);
        checkHours("to 20;from 8", 8, 20);
        checkHours("from 9;to 8", 24, -1);
        checkHours("from 20;to 8", 24, -1);
    }

    private static void checkHours(String text, int first, int last) {
        BeastRoad road = withLaw(text);
        for (int hour = 0; hour < 24; hour++) {
            due.is(text + " at " + hour, road.may(0, hour), first <= hour && hour <= last ? 0 : 3);
        }
    }

    static void p23TheLowestNumberOfSeveral() {
        BeastRoad road = withLaw("to 5;from 5;most 1;no 3");
        road.beast(0, 0);
        due.is("3", road.may(0, 6), 3);
        road.beast(0, 0);
        due.is("2 and 3", road.may(0, 6), 2);
        road.beast(3, 0);
        due.is("1, 2 and 3", road.may(0, 6), 1);
        due.is("1 and 2", road.may(0, 5), 1);
    }

    static void p23FirstAndLastForbiddenKind() {
        BeastRoad road = withLaw("no 0");
        road.beast(7, 0);
        due.is("7 is not 0", road.may(0, 0), 0);
        Due.feedText(road, "no 7");
        road.law(0);
        due.is("7", road.may(0, 0), 1);
        BeastRoad other = withLaw("no 7");
        other.beast(0, 0);
        due.is("0 is not 7", other.may(0, 0), 0);
        Due.feedText(other, "no 0");
        other.law(0);
        due.is("0", other.may(0, 0), 1);
    }

    static void p23OneOfManyIsForbidden() {
        for (int forbidden = 0; forbidden < 8; forbidden++) {
            BeastRoad road = withLaw("no " + forbidden);
            for (int kind = 0; kind < 8; kind++) {
                road.beast(kind, 0);
            }
            due.is("one of eight", road.may(0, 0), 1);
            road.gone(forbidden, 0);
            due.is("seven others", road.may(0, 0), 0);
        }
    }

    static void p23ThoseHereNowAsKnownNow() {
        BeastRoad road = withLaw("no 0");
        road.beast(0, 0);
        road.day();
        due.is("here", road.may(0, 0), 1);
        road.gone(0, 1);
        due.is("gone from NOW on", road.may(0, 0), 0);
        due.yes("here on the day ahead", road.here(0, 0, 1));
        road.gone(0, BeastRoad.NONE);
        due.is("not gone", road.may(0, 0), 1);
    }

    // ---- Promise 24: fee

    static void p24NoSuchTown() {
        BeastRoad road = Scene.full();
        for (int town : Due.outside(0, 2)) {
            due.is("fee(" + town + ")", road.fee(town), -1);
        }
        due.is("no towns at all", new BeastRoad().fee(0), -1);
    }

    static void p24NoBeastsHere() {
        due.is("fee alone", withLaw("fee 4;per 3").fee(0), 4);
        due.is("per alone", withLaw("per 3").fee(0), 0);
    }

    static void p24NoFeeNoPer() {
        BeastRoad road = withLaw("most 9");
        road.beast(0, 0);
        due.is("neither", road.fee(0), 0);
        Due.feedText(road, "fee 4");
        road.law(0);
        due.is("fee alone", road.fee(0), 4);
        Due.feedText(road, "per 3");
        road.law(0);
        due.is("per alone", road.fee(0), 3);
    }

    static void p24TheMost() {
        BeastRoad road = Scene.withBeasts(40);
        road.town(0, 0, 0);
        Due.feedText(road, "fee 99999;per 99999");
        road.law(0);
        due.is("41 times 99,999", road.fee(0), 4_099_959);
    }

    static void p24OfThoseHereNow() {
        BeastRoad road = withLaw("per 1");
        road.beast(0, 0);
        road.beast(0, 0);
        road.day();
        due.is("two", road.fee(0), 2);
        road.gone(0, 1);
        due.is("one", road.fee(0), 1);
        road.beast(0, 1);
        due.is("two", road.fee(0), 2);
    }

    static void p24WhetherOrNotTheyMay() {
        BeastRoad road = withLaw("no 0;most 0;from 24;fee 4;per 3");
        road.beast(0, 0);
        due.is("may", road.may(0, 0), 1);
        due.is("fee", road.fee(0), 7);
    }
}
