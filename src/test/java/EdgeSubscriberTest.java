/** Terms II: SUBSCRIBERS; promises 24 to 28 at their bounds. */
public final class EdgeSubscriberTest {
    private static final Check CHECK = new Check("EdgeSubscriberTest");
    private static final int MIN = Check.MIN;
    private static final int[] WRONG_WHOS = {-1, 4, 5, MIN, Integer.MAX_VALUE};

    public static void main(String[] args) {
        whos();
        beginsWithNothing();
        beginsWithAll();
        beginsAnew();
        notBegun();
        pullsNothing();
        pullsAll();
        pullsWhatIsOtherwise();
        eachHoldsItsOwn();
        pulledNumbers();
        pulledOfTheLatestOnly();
        heldNumbers();
        heldSinceItBegan();
        lagNumbers();
        lagOfSixty();
        lagOfAHundred();
        lagOfRowsThereAndBack();
        lagOfLapses();
        CHECK.end();
    }

    private static OuterRows desk() {
        return Check.deskOf("desk full keep 99 late 9;put left k v by 2 at 1;put right l w at 1");
    }

    private static void whos() {
        CHECK.says("SUBSCRIBERS 0 .. 3; 24: NONE: 1 (no such one)");
        OuterRows x = desk();
        for (int who = 0; who < 4; who++) {
            CHECK.due("size(4)", x.size(4), who);
            CHECK.due("begin(" + who + ")", x, x.begin(who), 2, 0);
        }
        for (int who : WRONG_WHOS) {
            CHECK.due("begin(" + who + ")", x, x.begin(who), -1, 1);
        }
        CHECK.due("size(4)", x.size(4), 4);
        OuterRows none = new OuterRows();
        CHECK.due("begin(0) without a DESK", none, none.begin(0), -1, 1);
        CHECK.due("size(4) without a DESK", none.size(4), 0);
    }

    private static void beginsWithNothing() {
        CHECK.says("24: how many rows it HOLDS (not 0)");
        OuterRows x = Check.deskOf("desk full keep 99 late 9;put left k v at 1;back left k v at 1");
        CHECK.due("begin(0)", x, x.begin(0), 0, 0);
        CHECK.due("it has begun", x, x.lag(0, 0), 0, 0);
        CHECK.due("held", x, x.held(0, 0, 0, -1), 0, 0);
    }

    private static void beginsWithAll() {
        CHECK.says("24: all the rows that there is room for");
        OuterRows x = Full.ofRows();
        CHECK.due("begin(3)", x, x.begin(3), Full.ROWS, 0);
        CHECK.due("the last row", x, x.held(3, 7, -1, 7), 1, 0);
    }

    private static void beginsAnew() {
        CHECK.says("24: A SUBSCRIBER begins (anew)");
        OuterRows x = desk();
        x.begin(0);
        x.event(1, 0, 0, 3, 1);
        x.event(0, 0, 1, 3, 1);
        CHECK.due("begin(0) anew", x, x.begin(0), 3, 0);
        int[] due = {0, 1, 0, 0};
        for (int what = 0; what < 4; what++) {
            CHECK.due("lag(0, " + what + ")", x, x.lag(0, what), due[what], 0);
        }
        CHECK.due("size(4)", x.size(4), 1);
        CHECK.due("held", x.held(0, 0, 0, 0), 6);
        CHECK.due("pull(0)", x, x.pull(0), 0, 0);
    }

    private static void notBegun() {
        CHECK.says("25 to 28: 1 (no such one, it hasn't begun)");
        OuterRows x = desk();
        x.begin(2);
        int[] whos = {0, 1, 3, -1, 4, MIN, Integer.MAX_VALUE};
        for (int who : whos) {
            CHECK.due("pull(" + who + ")", x, x.pull(who), -1, 1);
            CHECK.due("pulled(" + who + ", 0, 0)", x, x.pulled(who, 0, 0), MIN, 1);
            CHECK.due("held(" + who + ", 0, 0, -1)", x, x.held(who, 0, 0, -1), MIN, 1);
            for (int what = 0; what < 4; what++) {
                CHECK.due("lag(" + who + ", " + what + ")", x, x.lag(who, what), -1, 1);
            }
        }
        CHECK.due("pull(2)", x, x.pull(2), 0, 0);
        CHECK.due("pull(0) didn't begin it", x.size(4), 1);
    }

    private static void pullsNothing() {
        CHECK.says("25: how many DIFFERENCES");
        OuterRows x = desk();
        x.begin(0);
        CHECK.due("pull(0) at once", x, x.pull(0), 0, 0);
        CHECK.due("pulled(0, 0, 0)", x, x.pulled(0, 0, 0), MIN, 1);
        CHECK.due("lag(0, 3)", x, x.lag(0, 3), 0, 0);
    }

    private static void pullsAll() {
        CHECK.says("25, 26: all the DIFFERENCES that there is room for");
        OuterRows x = Full.ofNames();
        x.begin(1);
        Full.sendAllRows(x);
        CHECK.due("lag(1, 2)", x, x.lag(1, 2), Full.ROWS, 0);
        CHECK.due("pull(1)", x, x.pull(1), Full.ROWS, 0);
        CHECK.due("lag(1, 3)", x, x.lag(1, 3), Full.ROWS, 0);
        int[] last = {7, -2, 7, 1};
        for (int what = 0; what < 4; what++) {
            CHECK.due("the last one's " + what, x, x.pulled(1, Full.ROWS - 1, what), last[what], 0);
        }
        CHECK.due("none behind it", x, x.pulled(1, Full.ROWS, 0), MIN, 1);
    }

    private static void pullsWhatIsOtherwise() {
        CHECK.says("each row that it holds otherwise than SENT is a DIFFERENCE (SENT less what it held); it holds SENT then");
        OuterRows x = desk();
        x.begin(0);
        x.event(0, 0, 0, 1, 1);
        CHECK.due("one more", x, x.pull(0), 1, 0);
        CHECK.due("differences", Check.differences(x, 0), "0,0,-2,1");
        x.event(0, 0, 0, -2, 1);
        CHECK.due("two less", x, x.pull(0), 1, 0);
        CHECK.due("differences", Check.differences(x, 0), "0,0,-2,-2");
        x.event(0, 0, 0, -1, 1);
        CHECK.due("to 0", x, x.pull(0), 1, 0);
        CHECK.due("differences", Check.differences(x, 0), "0,0,-2,-1");
        CHECK.due("held", x, x.held(0, 0, 0, -1), 0, 0);
        CHECK.due("nothing any more", x, x.pull(0), 0, 0);
        CHECK.due("differences", Check.differences(x, 0), "");
    }

    private static void eachHoldsItsOwn() {
        CHECK.says("SUBSCRIBERS 0 .. 3: each");
        OuterRows x = desk();
        for (int who = 0; who < 4; who++) {
            x.begin(who);
            x.event(0, 0, 0, 1, 1);
        }
        for (int who = 3; who >= 0; who--) {
            CHECK.due("held", x, x.held(who, 0, 0, -1), 2 + who, 0);
            CHECK.due("BEHIND", x, x.lag(who, 0), 4 - who, 0);
            CHECK.due("pull", x, x.pull(who), 1, 0);
            CHECK.due("by how much", x, x.pulled(who, 0, 3), 4 - who, 0);
        }
        for (int who = 0; who < 4; who++) {
            CHECK.due("its own still", x.pulled(who, 0, 3), 4 - who);
            CHECK.due("held", x.held(who, 0, 0, -1), 6);
        }
    }

    private static void pulledNumbers() {
        CHECK.says("26: Integer.MIN_VALUE: 1 (i, what, not begun, too)");
        OuterRows x = desk();
        x.begin(3);
        CHECK.due("without a PULL", x, x.pulled(3, 0, 0), MIN, 1);
        x.event(1, 0, 0, 2, 1);
        CHECK.due("before it PULLS", x, x.pulled(3, 0, 0), MIN, 1);
        x.pull(3);
        int[][] due = {{0, 0, 0, 4}, {0, 0, -2, -2}};
        for (int i = 0; i < 2; i++) {
            for (int what = 0; what < 4; what++) {
                CHECK.due("pulled(3, " + i + ", " + what + ")", x, x.pulled(3, i, what), due[i][what], 0);
            }
        }
        int[] wrong = {-1, 2, 648, MIN, Integer.MAX_VALUE};
        for (int i : wrong) {
            CHECK.due("pulled(3, " + i + ", 0)", x, x.pulled(3, i, 0), MIN, 1);
        }
        int[] whats = {-1, 4, MIN, Integer.MAX_VALUE};
        for (int what : whats) {
            CHECK.due("pulled(3, 0, " + what + ")", x, x.pulled(3, 0, what), MIN, 1);
        }
        // the rows of SUBSCRIBER 3 are not those of 2 counted on
        CHECK.due("pulled(2, 0, 0)", x, x.pulled(2, 0, 0), MIN, 1);
    }

    private static void pulledOfTheLatestOnly() {
        CHECK.says("26: Of the i-th DIFFERENCE of its latest PULL");
        OuterRows x = desk();
        x.begin(0);
        x.event(1, 0, 0, 2, 1);
        x.pull(0);
        x.event(0, 1, 1, 1, 1);
        x.event(0, 1, 1, 1, 1);
        CHECK.due("stays behind EVENTS", Check.differences(x, 0), "0,0,0,4 0,0,-2,-2");
        x.pull(0);
        CHECK.due("is another then", Check.differences(x, 0), "1,1,1,2 1,-2,1,-1");
        x.tick(999);
        CHECK.due("stays behind LAPSES", Check.differences(x, 0), "1,1,1,2 1,-2,1,-1");
    }

    private static void heldNumbers() {
        CHECK.says("27: Integer.MIN_VALUE: 1 (not begun, too); both none: 1");
        OuterRows x = desk();
        x.begin(0);
        int[][] wrong = {{0, -1, -1}, {-1, 0, 0}, {2, 0, 0}, {0, 2, 0}, {0, 0, 2}, {0, -2, 0}, {0, 0, -2}, {0, 8, 8}, {MIN, 0, 0}, {0, MIN, 0}, {0, 0, MIN}};
        for (int[] row : wrong) {
            CHECK.due("held(0, " + row[0] + ", " + row[1] + ", " + row[2] + ")", x, x.held(0, row[0], row[1], row[2]), MIN, 1);
        }
        CHECK.due("held(0, 1, -1, 1)", x, x.held(0, 1, -1, 1), 1, 0);
        CHECK.due("held(0, 1, 1, -1)", x, x.held(0, 1, 1, -1), 0, 0);
    }

    private static void heldSinceItBegan() {
        CHECK.says("HOLDS rows, as SENT was when it began, or pulled latest");
        OuterRows x = desk();
        x.begin(0);
        x.event(0, 0, 0, 5, 1);
        CHECK.due("as when it began", x, x.held(0, 0, 0, -1), 2, 0);
        x.pull(0);
        x.event(0, 0, 0, -7, 1);
        CHECK.due("as when it pulled", x, x.held(0, 0, 0, -1), 7, 0);
        Check.more(x, "put left m u at 1");
        CHECK.due("of a KEY that wasn't one", x, x.held(0, 2, 2, -1), 0, 0);
    }

    private static void lagNumbers() {
        CHECK.says("28: NONE: 1 (what, not begun, too)");
        OuterRows x = desk();
        x.begin(0);
        int[] due = {0, 1, 0, 0};
        for (int what = 0; what < 4; what++) {
            CHECK.due("lag(0, " + what + ")", x, x.lag(0, what), due[what], 0);
        }
        int[] wrong = {-1, 4, MIN, Integer.MAX_VALUE};
        for (int what : wrong) {
            CHECK.due("lag(0, " + what + ")", x, x.lag(0, what), -1, 1);
        }
    }

    private static void lagOfSixty() {
        CHECK.says("28: 1 1 if THE LOG has all these CHANGES, 0");
        OuterRows x = desk();
        x.begin(0);
        for (int behind = 0; behind <= 70; behind++) {
            CHECK.due("lag(0, 0)", x, x.lag(0, 0), behind, 0);
            CHECK.due("lag(0, 1) of " + behind, x, x.lag(0, 1), behind <= 60 ? 1 : 0, 0);
            x.event(0, 0, 0, 1, 1);
        }
        x.pull(0);
        CHECK.due("pulled", x, x.lag(0, 0), 0, 0);
        CHECK.due("pulled", x, x.lag(0, 1), 1, 0);
    }

    private static void lagOfAHundred() {
        CHECK.says("BEHIND: CHANGES since");
        OuterRows x = desk();
        for (int i = 0; i < 100; i++) {
            x.event(0, 0, 0, 1, 1);
        }
        x.begin(0);
        CHECK.due("what came ahead doesn't count", x, x.lag(0, 0), 0, 0);
        CHECK.due("THE LOG has all of none", x, x.lag(0, 1), 1, 0);
        x.event(1, 0, 0, 1, 1);
        CHECK.due("two of one EVENT", x, x.lag(0, 0), 2, 0);
        x.how(0);
        CHECK.due("those of an exchange", x, x.lag(0, 0), 3, 0);
    }

    private static void lagOfRowsThereAndBack() {
        CHECK.says("28: 2 how many rows it HOLDS otherwise than SENT, 3 DIFFERENCES of its latest PULL (0 without)");
        OuterRows x = desk();
        x.begin(0);
        x.event(0, 0, 0, 1, 1);
        CHECK.due("one", x, x.lag(0, 2), 1, 0);
        CHECK.due("none pulled", x, x.lag(0, 3), 0, 0);
        x.event(0, 0, 0, -1, 1);
        CHECK.due("there and back", x, x.lag(0, 2), 0, 0);
        CHECK.due("BEHIND all the same", x, x.lag(0, 0), 2, 0);
        x.event(1, 0, 0, 1, 1);
        CHECK.due("two", x, x.lag(0, 2), 2, 0);
        x.pull(0);
        CHECK.due("none", x, x.lag(0, 2), 0, 0);
        CHECK.due("two pulled", x, x.lag(0, 3), 2, 0);
        x.pull(0);
        CHECK.due("none pulled", x, x.lag(0, 3), 0, 0);
    }

    private static void lagOfLapses() {
        CHECK.says("LAPSED: nothing is sent");
        OuterRows x = desk();
        x.begin(0);
        CHECK.due("both LAPSE", x.tick(999), 2);
        int[] due = {0, 1, 0, 0};
        for (int what = 0; what < 4; what++) {
            CHECK.due("lag(0, " + what + ")", x, x.lag(0, what), due[what], 0);
        }
    }
}
