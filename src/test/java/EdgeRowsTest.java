/** Terms II: JOIN, OUTER rows, CHANGES, CLOSED, THE LOG; promises 13 to 23 at their bounds. */
public final class EdgeRowsTest {
    private static final Check CHECK = new Check("EdgeRowsTest");
    private static final int MIN = Check.MIN;
    private static final String[] HOWS = {"inner", "left", "right", "full"};

    public static void main(String[] args) {
        joinOfThereByThere();
        outerRowsAsHowHasThem();
        noChangeOfZero();
        changeOfAPartOnly();
        othersOuterRowsGoFirst();
        othersOuterRowsComeLast();
        valuesThatAreNotThere();
        bothOfOneEvent();
        sentIsJoinAndClosed();
        nothingIsSentByALapse();
        closedForEver();
        valuesOfRowsInCalls();
        rowsOfNone();
        rowsThatAreZeroAgain();
        rowsOfAll();
        rowNumbers();
        rowOrder();
        spellOfTheShortest();
        spellOfTheLongest();
        spellNumbers();
        trafficOfNone();
        trafficAsOftenAsEachTells();
        trafficOfMost();
        logOfNone();
        logOfSixty();
        logNumbers();
        logCountsFromOne();
        flipsBothWays();
        flipsByLapses();
        flipNumbers();
        busiestOfLikeOnes();
        dearestOfLikeOnes();
        CHECK.end();
    }

    private static void joinOfThereByThere() {
        CHECK.says("JOIN: rows (left VALUE, right VALUE), each THERE by THERE times");
        OuterRows x = Check.deskOf("desk inner keep 9 late 9;put left k v by 9 at 1;put right k w by 9 at 1");
        CHECK.due("nine by nine", x, x.join(0, 0, 1), 81, 0);
        CHECK.due("the other way", x, x.join(0, 1, 0), 0, 0);
        x.event(1, 0, 1, -9, 1);
        CHECK.due("nine by none", x, x.join(0, 0, 1), 0, 0);
        x.event(1, 0, 1, -1, 1);
        CHECK.due("nine by less than none", x, x.join(0, 0, 1), 0, 0);
    }

    private static void outerRowsAsHowHasThem() {
        CHECK.says("OUTER rows: by left and full, if right doesn't have the KEY; by right and full likewise");
        for (int how = 0; how < 4; how++) {
            OuterRows x = Check.deskOf("desk " + HOWS[how] + " keep 9 late 9;put left k v by 2 at 1;put right l v by 3 at 1;back right k v at 1;back left l v at 1");
            int left = how == 1 || how == 3 ? 2 : 0;
            int right = how == 2 || how == 3 ? 3 : 0;
            CHECK.due("left OUTER row by " + HOWS[how], x, x.join(0, 0, -1), left, 0);
            CHECK.due("right OUTER row by " + HOWS[how], x, x.join(1, -1, 0), right, 0);
            CHECK.due("sent likewise", x, x.sent(0, 0, -1), left, 0);
            CHECK.due("sent likewise", x, x.sent(1, -1, 0), right, 0);
            x.event(1, 0, 0, 1, 1);
            CHECK.due("right has a NET of 0", x, x.join(0, 0, -1), left, 0);
            x.event(1, 0, 0, 1, 1);
            CHECK.due("right has the KEY", x, x.join(0, 0, -1), 0, 0);
            CHECK.due("sent likewise", x, x.sent(0, 0, -1), 0, 0);
            CHECK.due("the row with it", x, x.sent(0, 0, 0), 2, 0);
        }
    }

    private static void noChangeOfZero() {
        CHECK.says("CHANGES of an EVENT by which THERE becomes more by d (none with 0)");
        OuterRows x = Check.deskOf("desk full keep 9 late 9;put right k v at 1;back left k v by 2 at 1");
        CHECK.due("from -2 to -1", x, x.event(0, 0, 0, 1, 1), 0, 0);
        CHECK.due("from -1 to 0", x, x.event(0, 0, 0, 1, 1), 0, 0);
        CHECK.due("from 0 to -9", x, x.event(0, 0, 0, -9, 1), 0, 0);
        CHECK.due("from -9 to 0", x, x.event(0, 0, 0, 9, 1), 0, 0);
        CHECK.due("no FLIP", x.flips(0, 0), 0);
        CHECK.due("they have numbers", x.about(7), 6);
        CHECK.due("they are in THE STORE", x.size(2), 6);
    }

    private static void changeOfAPartOnly() {
        CHECK.says("THERE becomes more by d (less by -d)");
        OuterRows x = Check.deskOf("desk left keep 9 late 9;back left k v by 2 at 1");
        CHECK.due("from -2 to 1", x.event(0, 0, 0, 3, 1), 1);
        CHECK.due("by 1", x.log(0, 3), 1);
        CHECK.due("from 1 to 9", x.event(0, 0, 0, 8, 1), 1);
        CHECK.due("by 8", x.log(0, 3), 8);
        CHECK.due("from 9 to 1", x.event(0, 0, 0, -8, 1), 1);
        CHECK.due("by -8", x.log(0, 3), -8);
        CHECK.due("from 1 to -8", x.event(0, 0, 0, -9, 1), 1);
        CHECK.due("by -1", x.log(0, 3), -1);
    }

    private static void othersOuterRowsGoFirst() {
        CHECK.says("if its SIDE didn't have the KEY and has it now: OUTER rows of the other SIDE go, by VALUES; then rows with it");
        OuterRows x = Check.deskOf("desk full keep 9 late 9;put left k v by 2 at 1;put left k w by 3 at 1;put right k w by 4 at 1");
        CHECK.due("left ones go", Check.log(x), "0,0,-2,2@1 0,1,-2,3@2 0,0,-2,-2@3 0,1,-2,-3@3 0,0,1,8@3 0,1,1,12@3");
        CHECK.due("one more: no OUTER row goes", x.event(1, 0, 1, 1, 1), 2);
        x = Check.deskOf("desk right keep 9 late 9;put right k v by 2 at 1;put right k w by 3 at 1;put left k w by 4 at 1");
        CHECK.due("right ones go", Check.log(x), "0,-2,0,2@1 0,-2,1,3@2 0,-2,0,-2@3 0,-2,1,-3@3 0,1,0,8@3 0,1,1,12@3");
    }

    private static void othersOuterRowsComeLast() {
        CHECK.says("then, if its SIDE had the KEY and doesn't any more, OUTER rows of the other SIDE come");
        OuterRows x = Check.deskOf("desk full keep 9 late 9;put left k w at 1;put right k v at 1;put right k w by 2 at 1");
        CHECK.due("the last one goes", x.event(0, 0, 0, -1, 1), 4);
        String log = Check.log(x);
        CHECK.due("rows with it, then right ones come", log.substring(log.indexOf("0,0,0,-2@4")),
            "0,0,0,-2@4 0,0,1,-1@4 0,-2,0,2@4 0,-2,1,1@4");
        x = Check.deskOf("desk left keep 9 late 9;put right k w at 1;put left k v at 1;put left k w by 2 at 1");
        CHECK.due("the last one goes", x.event(1, 0, 0, -1, 1), 4);
        log = Check.log(x);
        CHECK.due("rows with it, then left ones come", log.substring(log.indexOf("0,0,0,-2@4")),
            "0,0,0,-2@4 0,1,0,-1@4 0,0,-2,2@4 0,1,-2,1@4");
    }

    private static void valuesThatAreNotThere() {
        CHECK.says("by VALUES of the other SIDE that are THERE");
        OuterRows x = Check.deskOf("desk full keep 9 late 9;back right k v at 1;put right k w by 2 at 1;back right k u by 3 at 1");
        CHECK.due("one row only, an OUTER one goes", x.event(0, 0, 0, 1, 1), 2);
        CHECK.due("rows", Check.rows(x), "k:v|w*2");
        CHECK.due("OUTER rows of VALUES that are THERE", x.event(0, 0, 0, -1, 1), 2);
        CHECK.due("rows", Check.rows(x), "k:-|w*2");
    }

    private static void bothOfOneEvent() {
        CHECK.says("or, if that doesn't have the KEY, its OUTER row, d");
        for (int how = 0; how < 4; how++) {
            OuterRows x = Check.deskOf("desk " + HOWS[how] + " keep 9 late 9;put left k v by 5 at 1");
            CHECK.due("left by " + HOWS[how], x.traffic(0), how == 1 || how == 3 ? 5 : 0);
            x = Check.deskOf("desk " + HOWS[how] + " keep 9 late 9;put right k v by 5 at 1");
            CHECK.due("right by " + HOWS[how], x.traffic(0), how == 2 || how == 3 ? 5 : 0);
        }
    }

    private static void sentIsJoinAndClosed() {
        CHECK.says("SENT is JOIN and CLOSED, together, row by row, always");
        OuterRows x = Full.ofRows();
        for (int k = 0; k < 8; k++) {
            for (int i = 0; i < 80; i++) {
                int left = i / 9 == 8 ? -1 : i / 9;
                int right = i % 9 == 8 ? -1 : i % 9;
                boolean isOuter = left == -1 || right == -1;
                CHECK.due("sent", x, x.sent(k, left, right), 1, 0);
                CHECK.due("join", x, x.join(k, left, right), isOuter ? 0 : 1, 0);
                CHECK.due("closed", x, x.closed(k, left, right), isOuter ? 1 : 0, 0);
            }
        }
    }

    private static void nothingIsSentByALapse() {
        CHECK.says("LAPSED: nothing is sent");
        OuterRows x = Check.deskOf("desk full keep 1 late 9;put left k v by 2 at 1;put right k v by 2 at 1");
        x.begin(0);
        x.tick(9);
        CHECK.due("CHANGES", x.traffic(2), 3);
        CHECK.due("BEHIND", x.lag(0, 0), 0);
        CHECK.due("SENT", x.sent(0, 0, 0), 4);
        CHECK.due("JOIN", x.join(0, 0, 0), 0);
    }

    private static void closedForEver() {
        CHECK.says("what SENT is then more than at the LAPSE ahead is CLOSED for ever");
        OuterRows x = Check.deskOf("desk full keep 1 late 9;put left k v by 2 at 1");
        CHECK.due("none yet", x, x.closed(0, 0, -1), 0, 0);
        x.tick(3);
        CHECK.due("once", x, x.closed(0, 0, -1), 2, 0);
        x.event(0, 0, 0, -2, 3);
        CHECK.due("taken back behind it: a debt", x, x.closed(0, 0, -1), 2, 0);
        CHECK.due("SENT stays", x, x.sent(0, 0, -1), 2, 0);
        x.tick(5);
        CHECK.due("a LAPSE of a debt", x, x.closed(0, 0, -1), 2, 0);
        x.event(0, 0, 0, 3, 5);
        CHECK.due("SENT", x, x.sent(0, 0, -1), 5, 0);
        CHECK.due("CLOSED", x, x.closed(0, 0, -1), 2, 0);
        x.how(0);
        CHECK.due("an exchange takes what is there, not what is CLOSED", x, x.sent(0, 0, -1), 2, 0);
        x.how(1);
        x.tick(7);
        CHECK.due("twice", x, x.closed(0, 0, -1), 5, 0);
    }

    private static void valuesOfRowsInCalls() {
        CHECK.says("VALUES of rows in calls: -1 for none (both none: 1)");
        OuterRows x = Check.deskOf("desk full keep 9 late 9;put left k v at 1;put left l w at 1");
        int[][] wrong = {{0, -1, -1}, {-1, 0, 0}, {2, 0, 0}, {8, 0, 0}, {0, -2, 0}, {0, 0, -2}, {0, 2, 0}, {0, 0, 2}, {0, 2, -1}, {0, -1, 2},
            {0, -2, -1}, {0, -1, -2}, {0, 8, 0}, {0, 0, 8}, {MIN, 0, 0}, {Integer.MAX_VALUE, 0, 0}, {0, MIN, 0}, {0, 0, Integer.MAX_VALUE}};
        for (int[] row : wrong) {
            String of = "(" + row[0] + ", " + row[1] + ", " + row[2] + ")";
            CHECK.due("sent" + of, x, x.sent(row[0], row[1], row[2]), MIN, 1);
            CHECK.due("join" + of, x, x.join(row[0], row[1], row[2]), -1, 1);
            CHECK.due("closed" + of, x, x.closed(row[0], row[1], row[2]), MIN, 1);
        }
        int[][] right = {{0, 0, -1, 1}, {1, 1, -1, 1}, {0, -1, 0, 0}, {1, -1, 1, 0}, {1, 1, 1, 0}, {1, 0, -1, 0}};
        for (int[] row : right) {
            CHECK.due("sent", x, x.sent(row[0], row[1], row[2]), row[3], 0);
            CHECK.due("join", x, x.join(row[0], row[1], row[2]), row[3], 0);
            CHECK.due("closed", x, x.closed(row[0], row[1], row[2]), 0, 0);
        }
    }

    private static void rowsOfNone() {
        CHECK.says("16: How many rows have SENT that isn't 0");
        OuterRows x = Check.deskOf("desk full keep 9 late 9");
        CHECK.due("rows()", x, x.rows(), 0, 0);
        CHECK.due("row(0, 0)", x, x.row(0, 0), MIN, 1);
        CHECK.due("spell(0, 0)", x, x.spell(0, 0), -1, 1);
    }

    private static void rowsThatAreZeroAgain() {
        CHECK.says("16: SENT that isn't 0");
        OuterRows x = Check.deskOf("desk full keep 9 late 9;put left k v by 2 at 1");
        CHECK.due("one", x, x.rows(), 1, 0);
        x.event(0, 0, 0, -1, 1);
        CHECK.due("one still", x, x.rows(), 1, 0);
        x.event(0, 0, 0, -1, 1);
        CHECK.due("none", x, x.rows(), 0, 0);
        CHECK.due("no row", x, x.row(0, 3), MIN, 1);
    }

    private static void rowsOfAll() {
        CHECK.says("16, 17: all the rows that there is room for");
        OuterRows x = Full.ofRows();
        CHECK.due("rows()", x, x.rows(), Full.ROWS, 0);
        int[] last = {7, -2, 7, 1};
        for (int what = 0; what < 4; what++) {
            CHECK.due("the last row's " + what, x, x.row(Full.ROWS - 1, what), last[what], 0);
        }
        CHECK.due("none behind it", x, x.row(Full.ROWS, 0), MIN, 1);
        for (int i = 0; i < Full.ROWS_OF_KEY; i++) {
            CHECK.due("left of row " + i, x.row(i, 1), i / 9 == 8 ? -2 : i / 9);
            CHECK.due("right of row " + i, x.row(i, 2), i % 9 == 8 ? -2 : i % 9);
        }
        CHECK.due("the next KEY's first", x.row(Full.ROWS_OF_KEY, 0), 1);
    }

    private static void rowNumbers() {
        CHECK.says("17: Integer.MIN_VALUE: 1 (i, what, too)");
        OuterRows x = Check.deskOf("desk full keep 9 late 9;put left k v at 1;put right l v by 2 at 1");
        int[][] due = {{0, 0, -2, 1}, {1, -2, 0, 2}};
        for (int i = 0; i < 2; i++) {
            for (int what = 0; what < 4; what++) {
                CHECK.due("row(" + i + ", " + what + ")", x, x.row(i, what), due[i][what], 0);
            }
        }
        int[] wrong = {-1, 2, 640, 648, MIN, Integer.MAX_VALUE};
        for (int i : wrong) {
            CHECK.due("row(" + i + ", 0)", x, x.row(i, 0), MIN, 1);
        }
        int[] whats = {-1, 4, MIN, Integer.MAX_VALUE};
        for (int what : whats) {
            CHECK.due("row(0, " + what + ")", x, x.row(0, what), MIN, 1);
        }
    }

    private static void rowOrder() {
        CHECK.says("17: by KEYS, then left VALUES, then right ones (none behind all others)");
        OuterRows x = Check.deskOf("desk full keep 1 late 9;put right l w at 1;put right l v at 1;put right k w at 1;tick 3;"
            + "put left k v at 3;put left k w at 3;tick 5;put left k w at 5;put left k v at 5;put right k v at 5;put right k w at 5");
        CHECK.due("rows", Check.rows(x), "l:-|w*1 l:-|v*1 k:w|w*1 k:w|v*1 k:w|-*1 k:v|w*1 k:v|v*1 k:v|-*1 k:-|w*1");
    }

    private static void dueText(OuterRows x, int i, String text) {
        for (int j = 0; j < text.length(); j++) {
            CHECK.due("spell(" + i + ", " + j + ")", x, x.spell(i, j), text.charAt(j), 0);
        }
        CHECK.due("behind its end", x, x.spell(i, text.length()), -1, 0);
        CHECK.due("far behind its end", x, x.spell(i, Integer.MAX_VALUE), -1, 0);
    }

    private static void spellOfTheShortest() {
        CHECK.says("TEXT of a row: KEY's WORD, ':', the left VALUE's WORD, or '-', '|', the right one's, or '-', '*', how often");
        OuterRows x = Check.deskOf("desk full keep 9 late 9;put left k v at 1;put right l v at 1");
        dueText(x, 0, "k:v|-*1");
        dueText(x, 1, "l:-|v*1");
    }

    private static void spellOfTheLongest() {
        CHECK.says("TEXT of a row: WORDS of five letters, a number of many digits");
        OuterRows x = Check.deskOf("desk full keep 9 late 9;put left abcde vwxyz by 9 at 1;put right abcde zyxwv by 9 at 1");
        for (int i = 0; i < 15; i++) {
            x.event(0, 0, 0, 9, 1);
            x.event(1, 0, 1, 9, 1);
        }
        dueText(x, 0, "abcde:vwxyz|zyxwv*20736");
    }

    private static void spellNumbers() {
        CHECK.says("18: NONE: 1 (i, j below 0, too)");
        OuterRows x = Check.deskOf("desk full keep 9 late 9;put left k v at 1");
        int[] wrong = {-1, 1, 648, MIN, Integer.MAX_VALUE};
        for (int i : wrong) {
            CHECK.due("spell(" + i + ", 0)", x, x.spell(i, 0), -1, 1);
            CHECK.due("spell(" + i + ", 99)", x, x.spell(i, 99), -1, 1);
        }
        CHECK.due("spell(0, -1)", x, x.spell(0, -1), -1, 1);
        CHECK.due("spell(0, MIN)", x, x.spell(0, MIN), -1, 1);
    }

    private static void dueTraffic(OuterRows x, int... due) {
        for (int what = 0; what < 4; what++) {
            CHECK.due("traffic(" + what + ")", x, x.traffic(what), due[what], 0);
        }
    }

    private static void trafficOfNone() {
        CHECK.says("19: of no CHANGES; NONE: 1 (what, too)");
        OuterRows x = Check.deskOf("desk full keep 9 late 9;back left k v at 1;tick 9");
        dueTraffic(x, 0, 0, 0, 0);
        int[] wrong = {-1, 4, MIN, Integer.MAX_VALUE};
        for (int what : wrong) {
            CHECK.due("traffic(" + what + ")", x, x.traffic(what), -1, 1);
        }
    }

    private static void trafficAsOftenAsEachTells() {
        CHECK.says("19: 0 how many came, 1 went (as often as each tells), 2 CHANGES");
        OuterRows x = Check.deskOf("desk full keep 9 late 9;put left k v by 9 at 1");
        dueTraffic(x, 9, 0, 1, 1);
        x.event(0, 0, 0, -1, 1);
        dueTraffic(x, 9, 1, 2, 1);
        x.event(1, 0, 0, 9, 1);
        dueTraffic(x, 81, 9, 4, 2);
        x.tick(99);
        dueTraffic(x, 81, 9, 4, 2);
    }

    private static void trafficOfMost() {
        CHECK.says("19: 3 the most that one EVENT (or exchange) sent");
        OuterRows x = Full.ofNames();
        x.how(3);
        for (int v = 0; v < 8; v++) {
            x.event(0, 0, v, 1, 1);
            x.event(0, 1, v, 1, 1);
        }
        CHECK.due("one each", x.traffic(3), 1);
        CHECK.due("eight go, eight come", x.event(1, 0, 0, 1, 1), 16);
        CHECK.due("an EVENT", x.traffic(3), 16);
        CHECK.due("its number", x.dearest(), 18);
        x.event(1, 0, 0, -1, 1);
        CHECK.due("sixteen again", x.dearest(), 18);
        x.event(0, 2, 0, 1, 1);
        CHECK.due("an exchange", x.how(0), 17);
        CHECK.due("an exchange", x.traffic(3), 17);
        CHECK.due("its number", x.dearest(), 21);
        CHECK.due("two LINES of one TEXT aren't one EVENT", Check.deskOf("desk full keep 9 late 9;put left k v at 1;put left k w at 1").traffic(3), 1);
    }

    private static void logOfNone() {
        CHECK.says("20: Integer.MIN_VALUE: 1 (i, what, too)");
        OuterRows x = Check.deskOf("desk full keep 9 late 9");
        CHECK.due("log(0, 0)", x, x.log(0, 0), MIN, 1);
        CHECK.due("size(1)", x.size(1), 0);
    }

    private static void logOfSixty() {
        CHECK.says("THE LOG: the latest 60 CHANGES");
        OuterRows x = Check.deskOf("desk left keep 999 late 9;put left k v at 1");
        for (int count = 1; count <= 125; count++) {
            int kept = Math.min(60, count);
            CHECK.due("size(1)", x.size(1), kept);
            CHECK.due("the latest", x, x.log(0, 4), count, 0);
            CHECK.due("the oldest", x, x.log(kept - 1, 4), count - kept + 1, 0);
            CHECK.due("none behind it", x, x.log(kept, 4), MIN, 1);
            x.event(0, 0, 0, 1, 1);
        }
        CHECK.due("all were counted", x.traffic(2), 126);
    }

    private static void logNumbers() {
        CHECK.says("20: 0 KEY, 1 left VALUE (-2), 2 right one (-2), 3 how many (below 0: they went), 4 the EVENT's number");
        OuterRows x = Check.deskOf("desk full keep 9 late 9;put left k v by 9 at 1;put right k w by 2 at 1;put right l w at 1");
        int[][] due = {{1, -2, 1, 1, 3}, {0, 0, 1, 18, 2}, {0, 0, -2, -9, 2}, {0, 0, -2, 9, 1}};
        for (int i = 0; i < 4; i++) {
            for (int what = 0; what < 5; what++) {
                CHECK.due("log(" + i + ", " + what + ")", x, x.log(i, what), due[i][what], 0);
            }
        }
        int[] wrong = {-1, 5, MIN, Integer.MAX_VALUE};
        for (int n : wrong) {
            CHECK.due("log(0, " + n + ")", x, x.log(0, n), MIN, 1);
            CHECK.due("log(" + n + ", 0)", x, x.log(n, 0), MIN, 1);
        }
        CHECK.due("log(4, 0)", x, x.log(4, 0), MIN, 1);
    }

    private static void logCountsFromOne() {
        CHECK.says("the EVENT's number: EVENTS that aren't TOO LATE, exchanges of HOW, from 1 on");
        OuterRows x = Check.deskOf("desk full keep 9 late 0;tick 5;put left k v at 4;put left k v at 5");
        CHECK.due("the first", x.log(0, 4), 1);
        x.event(0, 0, 0, 1, 4);
        x.tick(6);
        x.bounds(9, 9);
        x.event(1, 0, 0, -1, 6);
        x.how(3);
        x.event(0, 0, 0, 1, 6);
        CHECK.due("one without CHANGES counts, an exchange of the same, too", x.log(0, 4), 4);
        x.how(0);
        CHECK.due("an exchange", x.log(0, 4), 5);
    }

    private static void flipsBothWays() {
        CHECK.says("FLIPS of a SIDE and KEY: how often it began, or ceased, to have the KEY");
        OuterRows x = Check.deskOf("desk inner keep 9 late 9;back left k v at 1");
        CHECK.due("a debt", x, x.flips(0, 0), 0, 0);
        x.event(0, 0, 0, 1, 1);
        CHECK.due("a NET of 0", x, x.flips(0, 0), 0, 0);
        x.event(0, 0, 0, 9, 1);
        CHECK.due("it began", x, x.flips(0, 0), 1, 0);
        x.event(0, 0, 0, -8, 1);
        CHECK.due("it has it still", x, x.flips(0, 0), 1, 0);
        x.event(0, 0, 0, -1, 1);
        CHECK.due("it ceased", x, x.flips(0, 0), 2, 0);
        CHECK.due("the other SIDE", x, x.flips(1, 0), 0, 0);
    }

    private static void flipsByLapses() {
        CHECK.says("FLIPS (by LAPSES, too)");
        OuterRows x = Check.deskOf("desk inner keep 1 late 9;put left k v at 1;back right k v at 1;put right l v at 1;put left l v at 1");
        x.tick(3);
        CHECK.due("a SIDE that had it", x.flips(0, 0), 2);
        CHECK.due("a SIDE in debt", x.flips(1, 0), 0);
        CHECK.due("both SIDES", x.flips(0, 1), 2);
        CHECK.due("both SIDES", x.flips(1, 1), 2);
        x.tick(9);
        CHECK.due("once", x.flips(0, 0), 2);
        x.how(3);
        CHECK.due("none by exchanges", x.flips(0, 0), 2);
    }

    private static void flipNumbers() {
        CHECK.says("21: NONE: 1");
        OuterRows x = Check.deskOf("desk inner keep 1 late 9;put left k v at 1");
        int[] wrong = {-1, 2, MIN, Integer.MAX_VALUE};
        for (int n : wrong) {
            CHECK.due("flips(" + n + ", 0)", x, x.flips(n, 0), -1, 1);
            CHECK.due("flips(0, " + n + ")", x, x.flips(0, n), -1, 1);
        }
        CHECK.due("flips(0, 1)", x, x.flips(0, 1), -1, 1);
        CHECK.due("flips(1, 0)", x, x.flips(1, 0), 0, 0);
    }

    private static void busiestOfLikeOnes() {
        CHECK.says("22: The KEY that sent most CHANGES, of several the first; -2 none was sent");
        OuterRows x = Check.deskOf("desk full keep 9 late 9");
        CHECK.due("no KEY", x, x.busiest(), -2, 0);
        Check.more(x, "back left a v at 1");
        CHECK.due("none sent", x, x.busiest(), -2, 0);
        Check.more(x, "put left c v at 1;put left b v at 1");
        CHECK.due("of several the first by number", x, x.busiest(), 1, 0);
        x.event(0, 2, 0, 1, 1);
        CHECK.due("one more", x, x.busiest(), 2, 0);
        x.event(0, 1, 0, 1, 1);
        CHECK.due("of several the first again", x, x.busiest(), 1, 0);
        x.event(0, 0, 0, 9, 1);
        CHECK.due("CHANGES count, not how many each tells", x, x.busiest(), 1, 0);
        x.event(0, 0, 0, 9, 1);
        CHECK.due("KEY 0 of three like ones", x, x.busiest(), 0, 0);
        x.tick(99);
        CHECK.due("lapsed ones, too", x, x.busiest(), 0, 0);
        x = Full.ofNames();
        x.event(0, 7, 0, 1, 1);
        CHECK.due("KEY 7", x, x.busiest(), 7, 0);
    }

    private static void dearestOfLikeOnes() {
        CHECK.says("23: The number of the EVENT (or exchange) that sent most CHANGES, of several the first; -2 none was sent");
        OuterRows x = Check.deskOf("desk full keep 9 late 9");
        CHECK.due("no EVENT", x, x.dearest(), -2, 0);
        x.how(1);
        CHECK.due("an exchange that sent none", x, x.dearest(), -2, 0);
        Check.more(x, "back left k v at 1;put left k v by 9 at 1;put left k v at 1");
        CHECK.due("the first that sent one", x, x.dearest(), 3, 0);
        Check.more(x, "put left l v at 1;put left l w at 1");
        CHECK.due("of like ones still", x, x.dearest(), 3, 0);
        CHECK.due("an exchange that sends three", x, x.how(2), 3, 0);
        CHECK.due("its number", x, x.dearest(), 7, 0);
        CHECK.due("three again", x, x.how(1), 3, 0);
        CHECK.due("the first of them", x, x.dearest(), 7, 0);
    }
}
