/** Terms II: an exchange of HOW; promises 33 to 38 at their bounds. */
public final class EdgeActTest {
    private static final Check CHECK = new Check("EdgeActTest");
    private static final int MIN = Check.MIN;

    public static void main(String[] args) {
        eventManies();
        eventTimes();
        eventTooLate();
        tickTimes();
        tickOfTheSameTime();
        tickOfManyKeys();
        tickIsNoEvent();
        howNumbers();
        howOfTheSame();
        howOfNothing();
        howOfKeysThatLapsed();
        howOfBothSides();
        howGoesThenComes();
        boundsKeep();
        boundsLate();
        boundsRefusedStay();
        boundsFromThenOn();
        keepWithoutDesk();
        backOfNothing();
        keptBeforeIsNoMore();
        itStaysKept();
        allIsKept();
        allOfAFullDeskIsKept();
        tapeAndFaultAreNotTheDesk();
        refusedTextsKeepWhatIsKept();
        CHECK.end();
    }

    private static void eventManies() {
        CHECK.says("33: An EVENT (many as in would())");
        OuterRows x = Check.deskOf("desk left keep 9 late 9;put left k v at 1");
        CHECK.due("many 9", x, x.event(0, 0, 0, 9, 1), 1, 0);
        CHECK.due("NET", x.net(0, 0, 0), 10);
        CHECK.due("many -9", x, x.event(0, 0, 0, -9, 1), 1, 0);
        CHECK.due("NET", x.net(0, 0, 0), 1);
        int[] wrong = {0, 10, -10, MIN, Integer.MAX_VALUE};
        for (int many : wrong) {
            CHECK.due("many " + many, x, x.event(0, 0, 0, many, 1), -1, 2);
        }
        CHECK.due("NET stays", x.net(0, 0, 0), 1);
        CHECK.due("numbers stay", x.about(7), 3);
    }

    private static void eventTimes() {
        CHECK.says("33: NONE: 2 (TIME, 0 .. 9,999)");
        OuterRows x = Check.deskOf("desk left keep 999 late 999;put left k v at 0");
        CHECK.due("at 0", x, x.event(0, 0, 0, 1, 0), 1, 0);
        int[] wrong = {-1, 10000, MIN, Integer.MAX_VALUE};
        for (int time : wrong) {
            CHECK.due("at " + time, x, x.event(0, 0, 0, 1, time), -1, 2);
        }
        CHECK.due("CLOCK stays", x.about(5), 0);
        CHECK.due("at 9999", x, x.event(0, 0, 0, 1, 9999), 1, 0);
        CHECK.due("CLOCK", x.about(5), 9999);
    }

    private static void eventTooLate() {
        CHECK.says("33: -2 TOO LATE");
        OuterRows x = Check.deskOf("desk left keep 9 late 2;tick 5;put left k v at 3");
        CHECK.due("on the edge", x, x.event(0, 0, 0, 1, 3), 1, 0);
        CHECK.due("beyond it", x, x.event(0, 0, 0, 1, 2), -2, 0);
        CHECK.due("TOO LATE ones", x.about(8), 1);
        CHECK.due("NET", x.net(0, 0, 0), 2);
    }

    private static void tickTimes() {
        CHECK.says("34: NONE: 1 (no DESK); 2 (0 .. 9,999)");
        OuterRows x = Check.deskOf("desk left keep 9 late 2");
        int[] wrong = {-1, 10000, MIN, Integer.MAX_VALUE};
        OuterRows none = new OuterRows();
        for (int time : wrong) {
            CHECK.due("tick(" + time + ")", x, x.tick(time), -1, 2);
            CHECK.due("tick(" + time + ") without a DESK", none, none.tick(time), -1, 1);
        }
        CHECK.due("CLOCK stays", x.about(5), 0);
        CHECK.due("tick(0)", x, x.tick(0), 0, 0);
        CHECK.due("tick(9999)", x, x.tick(9999), 0, 0);
        CHECK.due("CLOCK", x.about(5), 9999);
        CHECK.due("tick(0) without a DESK", none, none.tick(0), -1, 1);
    }

    private static void tickOfTheSameTime() {
        CHECK.says("34: CLOCK is that TIME, if it is less");
        OuterRows x = Check.deskOf("desk left keep 9 late 2;tick 5");
        int[][] steps = {{5, 5}, {4, 5}, {0, 5}, {6, 6}, {9998, 9998}, {9999, 9999}, {9998, 9999}};
        for (int[] step : steps) {
            CHECK.due("tick(" + step[0] + ")", x, x.tick(step[0]), 0, 0);
            CHECK.due("CLOCK", x.about(5), step[1]);
        }
    }

    private static void tickOfManyKeys() {
        CHECK.says("34: how many KEYS LAPSE");
        OuterRows x = Full.ofNames();
        x.bounds(4, 999);
        for (int k = 0; k < 8; k++) {
            x.event(k % 2, k, k, 1, 1);
        }
        CHECK.due("none", x, x.tick(5), 0, 0);
        CHECK.due("all eight", x, x.tick(6), 8, 0);
        CHECK.due("LAPSES", x.about(9), 8);
        CHECK.due("none any more", x, x.tick(9999), 0, 0);
    }

    private static void tickIsNoEvent() {
        CHECK.says("34: A tick");
        OuterRows x = Check.deskOf("desk full keep 9 late 2;put left k v at 1");
        x.tick(5);
        CHECK.due("numbers", x.about(7), 1);
        CHECK.due("THE STORE", x.size(2), 1);
        CHECK.due("the KEY's latest TIME", x.key(0, 1), 1);
        CHECK.due("TOO LATE ones", x.about(8), 0);
    }

    private static void howNumbers() {
        CHECK.says("35: NONE: 1 (no DESK); 2");
        OuterRows x = Check.deskOf("desk left keep 9 late 2");
        OuterRows none = new OuterRows();
        int[] wrong = {-1, 4, MIN, Integer.MAX_VALUE};
        for (int how : wrong) {
            CHECK.due("how(" + how + ")", x, x.how(how), -1, 2);
            CHECK.due("how(" + how + ") without a DESK", none, none.how(how), -1, 1);
        }
        CHECK.due("HOW stays", x.about(0), 1);
        CHECK.due("numbers stay", x.about(7), 0);
        for (int how = 0; how < 4; how++) {
            CHECK.due("how(" + how + ")", x, x.how(how), 0, 0);
            CHECK.due("HOW", x.about(0), how);
            CHECK.due("numbers", x.about(7), how + 1);
        }
        CHECK.due("how(0) without a DESK", none, none.how(0), -1, 1);
    }

    private static void howOfTheSame() {
        CHECK.says("35: HOW exchanged (the same, too)");
        OuterRows x = Check.deskOf("desk full keep 9 late 2;put left k v at 1;put right l v at 1");
        CHECK.due("the same", x, x.how(3), 0, 0);
        CHECK.due("it has a number", x.about(7), 3);
        CHECK.due("rows", Check.rows(x), "k:v|-*1 l:-|v*1");
        CHECK.due("not in THE STORE", x.size(2), 2);
    }

    private static void howOfNothing() {
        CHECK.says("35: how many CHANGES");
        OuterRows x = Check.deskOf("desk inner keep 9 late 2;back left k v at 1;put left l v at 1;put right l v at 1");
        CHECK.due("a debt has no OUTER row, nor a KEY that both have", x, x.how(3), 0, 0);
        CHECK.due("nor do they go", x, x.how(0), 0, 0);
    }

    private static void howOfKeysThatLapsed() {
        CHECK.says("for each KEY that lives");
        OuterRows x = Check.deskOf("desk full keep 2 late 2;put left k v at 1;put left l v at 2;tick 4");
        CHECK.due("one lapsed, one goes", x, x.how(0), 1, 0);
        CHECK.due("what is CLOSED stays", Check.rows(x), "k:v|-*1");
        CHECK.due("one comes", x, x.how(1), 1, 0);
        CHECK.due("rows", Check.rows(x), "k:v|-*1 l:v|-*1");
        // an exchange is no tick: a KEY that is due by another KEEP lives still
        x.bounds(1, 2);
        CHECK.due("one that is due goes", x, x.how(0), 1, 0);
        CHECK.due("and lives", x.about(6), 1);
        x.tick(4);
        CHECK.due("none lives", x.about(6), 0);
        CHECK.due("nothing comes", x, x.how(3), 0, 0);
    }

    private static void howOfBothSides() {
        CHECK.says("by numbers, OUTER rows .. (left ones, then right ones, by VALUES)");
        OuterRows x = Check.deskOf("desk inner keep 9 late 2;put right m v at 1;put right m w by 2 at 1;put left k w by 3 at 1;put left k v by 4 at 1");
        CHECK.due("both come", x, x.how(3), 4, 0);
        CHECK.due("log", Check.log(x), "0,-2,0,1@5 0,-2,1,2@5 1,0,-2,4@5 1,1,-2,3@5");
        CHECK.due("both go", x, x.how(0), 4, 0);
        CHECK.due("the latest", x.log(0, 0), 1);
        CHECK.due("the latest", x.log(0, 3), -3);
        CHECK.due("the first of them", x.log(3, 2), 0);
        CHECK.due("the first of them", x.log(3, 3), -1);
    }

    private static void howGoesThenComes() {
        CHECK.says("OUTER rows that HOW doesn't have any more go, those that it has now come");
        OuterRows x = Check.deskOf("desk left keep 9 late 2;put right m v at 1;put left k v by 4 at 1");
        CHECK.due("left to right", x, x.how(2), 2, 0);
        CHECK.due("log", Check.log(x), "1,0,-2,4@2 0,-2,0,1@3 1,0,-2,-4@3");
        CHECK.due("right to left", x, x.how(1), 2, 0);
        CHECK.due("rows", Check.rows(x), "k:v|-*4");
        CHECK.due("left to full", x, x.how(3), 1, 0);
        CHECK.due("full to right", x, x.how(2), 1, 0);
        CHECK.due("rows", Check.rows(x), "m:-|v*1");
    }

    private static void boundsKeep() {
        CHECK.says("36: false: 2 (KEEP, 1 .. 999)");
        OuterRows x = Check.deskOf("desk left keep 9 late 2");
        int[] wrong = {0, -1, 1000, MIN, Integer.MAX_VALUE};
        for (int keep : wrong) {
            CHECK.due("bounds(" + keep + ", 5)", x, x.bounds(keep, 5) ? 1 : 0, 0, 2);
        }
        CHECK.due("bounds(1, 5)", x, x.bounds(1, 5) ? 1 : 0, 1, 0);
        CHECK.due("KEEP", x.about(1), 1);
        CHECK.due("bounds(999, 5)", x, x.bounds(999, 5) ? 1 : 0, 1, 0);
        CHECK.due("KEEP", x.about(1), 999);
    }

    private static void boundsLate() {
        CHECK.says("36: false: 2 (LATE, 0 .. 999)");
        OuterRows x = Check.deskOf("desk left keep 9 late 2");
        int[] wrong = {-1, 1000, MIN, Integer.MAX_VALUE};
        for (int late : wrong) {
            CHECK.due("bounds(5, " + late + ")", x, x.bounds(5, late) ? 1 : 0, 0, 2);
        }
        CHECK.due("bounds(5, 0)", x, x.bounds(5, 0) ? 1 : 0, 1, 0);
        CHECK.due("LATE", x.about(2), 0);
        CHECK.due("bounds(5, 999)", x, x.bounds(5, 999) ? 1 : 0, 1, 0);
        CHECK.due("LATE", x.about(2), 999);
        OuterRows none = new OuterRows();
        CHECK.due("bounds(5, 5) without a DESK", none, none.bounds(5, 5) ? 1 : 0, 0, 1);
        CHECK.due("bounds(0, 5) without a DESK", none, none.bounds(0, 5) ? 1 : 0, 0, 1);
    }

    private static void boundsRefusedStay() {
        CHECK.says("36: refused: both stay");
        OuterRows x = Check.deskOf("desk left keep 9 late 2");
        x.bounds(5, 1000);
        x.bounds(0, 5);
        CHECK.due("KEEP", x.about(1), 9);
        CHECK.due("LATE", x.about(2), 2);
    }

    private static void boundsFromThenOn() {
        CHECK.says("36: (from then on; nothing LAPSES by that alone)");
        OuterRows x = Check.deskOf("desk left keep 9 late 9;put left k v at 1;tick 9");
        x.bounds(1, 0);
        CHECK.due("it lives", x.about(6), 1);
        CHECK.due("its rows are JOINED", x.join(0, 0, -1), 1);
        CHECK.due("no number", x.about(7), 1);
        CHECK.due("LATE from then on", x, x.event(0, 0, 0, 1, 8), -2, 0);
        CHECK.due("it lives", x.about(6), 1);
        CHECK.due("by the next tick", x, x.tick(0), 1, 0);
        x.event(0, 0, 0, 1, 9);
        x.bounds(9, 9);
        CHECK.due("a longer KEEP", x, x.tick(18), 0, 0);
        CHECK.due("a longer KEEP", x, x.tick(19), 1, 0);
        CHECK.due("a longer LATE", x, x.event(0, 0, 0, 1, 10), 1, 0);
    }

    private static void keepWithoutDesk() {
        CHECK.says("37: false: 1 (no DESK)");
        OuterRows x = new OuterRows();
        CHECK.due("keep()", x, x.keep() ? 1 : 0, 0, 1);
        CHECK.due("size(3)", x.size(3), 0);
        Check.desk(x, "desk odd");
        CHECK.due("keep() behind a FAULT", x, x.keep() ? 1 : 0, 0, 1);
        Check.desk(x, Lines.DESK);
        CHECK.due("size(3)", x.size(3), 0);
        CHECK.due("keep()", x, x.keep() ? 1 : 0, 1, 0);
        CHECK.due("size(3)", x.size(3), 1);
    }

    private static void backOfNothing() {
        CHECK.says("38: false: 1 (nothing is)");
        OuterRows x = new OuterRows();
        CHECK.due("back() without a DESK", x, x.back() ? 1 : 0, 0, 1);
        Check.desk(x, Lines.DESK + ";put left k v at 1");
        CHECK.due("back() of nothing", x, x.back() ? 1 : 0, 0, 1);
        CHECK.due("the DESK stays", Check.rows(x), "k:v|-*1");
        x.keep();
        Check.desk(x, Lines.DESK + ";put left l v at 1");
        CHECK.due("back() behind a new DESK", x, x.back() ? 1 : 0, 0, 1);
        CHECK.due("the DESK stays", Check.rows(x), "l:v|-*1");
    }

    private static void keptBeforeIsNoMore() {
        CHECK.says("37: (what was kept before is no more)");
        OuterRows x = Check.deskOf(Lines.DESK + ";put left k v at 1");
        x.keep();
        x.event(0, 0, 0, 1, 1);
        x.keep();
        x.event(0, 0, 0, 1, 1);
        CHECK.due("back()", x, x.back() ? 1 : 0, 1, 0);
        CHECK.due("as kept latest", Check.rows(x), "k:v|-*2");
        x.back();
        CHECK.due("once more", Check.rows(x), "k:v|-*2");
    }

    private static void itStaysKept() {
        CHECK.says("38: All is as it was kept (it stays kept)");
        OuterRows x = Check.deskOf(Lines.DESK + ";put left k v at 1");
        x.keep();
        for (int i = 0; i < 3; i++) {
            x.event(0, 0, 0, 9, 1);
            x.tick(99);
            CHECK.due("back()", x, x.back() ? 1 : 0, 1, 0);
            CHECK.due("rows", Check.rows(x), "k:v|-*1");
            CHECK.due("CLOCK", x.about(5), 1);
            CHECK.due("size(3)", x.size(3), 1);
        }
    }

    private static void allIsKept() {
        CHECK.says("37: All is kept as it is");
        OuterRows x = Check.deskOf("desk full keep 5 late 2;put left k v by 2 at 1;tick 7;put left l w at 1;put right m w at 7");
        x.begin(0);
        x.event(1, 1, 0, 3, 7);
        x.pull(0);
        x.begin(2);
        String before = Dump.of(x);
        x.keep();
        CHECK.due("keep() changes what is kept alone", Dump.of(x).replace("size 1 size 2", "size 0 size 2"), before);
        String kept = Dump.of(x);
        int[] traffic = {x.traffic(0), x.traffic(1), x.traffic(2), x.traffic(3)};
        int dearest = x.dearest();
        Check.more(x, "put left n u at 8;tick 50;put left k v at 1");
        x.how(1);
        x.bounds(900, 900);
        x.begin(1);
        x.begin(3);
        x.pull(0);
        x.pull(2);
        for (int i = 0; i < 130; i++) {
            x.event(i % 2, i / 2 % 4, i / 8 % 3, i % 5 == 0 ? -9 : 1 + i % 9, 50);
        }
        x.pull(2);
        for (int what = 0; what < 4; what++) {
            CHECK.due("traffic(" + what + ") is another", x.traffic(what) == traffic[what], false);
        }
        CHECK.due("dearest() is another", x.dearest() == dearest, false);
        x.back();
        CHECK.due("all is as it was", Dump.of(x), kept);
        CHECK.due("the next KEY is the fourth", Check.more(x, "put left o u at 8"), 1);
        CHECK.due("its letter", x.letter(0, 3, 0), 'o');
    }

    private static void allOfAFullDeskIsKept() {
        CHECK.says("37, 38: all that there is room for");
        OuterRows x = Full.ofRows();
        for (int who = 0; who < 4; who++) {
            x.begin(who);
            x.event(0, who, who, 1, 5);
        }
        x.pull(1);
        x.keep();
        String kept = Dump.of(x);
        x.tick(9999);
        Full.sendAllRows(x);
        x.pull(3);
        Check.more(x, "put left a s at 9999;put right b t at 9999");
        x.back();
        CHECK.due("all is as it was", Dump.of(x), kept);
    }

    private static void tapeAndFaultAreNotTheDesk() {
        CHECK.says("38: THE TAPE and fault() are no part of what is kept");
        OuterRows x = Check.deskOf(Lines.DESK);
        Check.feed(x, "tick 5");
        x.keep();
        x.more(6);
        Check.more(x, "tick");
        Check.feed(x, "tick 77;tick 78        tick 79");
        x.back();
        CHECK.due("THE TAPE", x.size(0), 40);
        CHECK.due("fault()", x.fault(), 1);
        CHECK.due("its bytes", x, x.more(15), 0, 0);
        CHECK.due("CLOCK", x.about(5), 78);
    }

    private static void refusedTextsKeepWhatIsKept() {
        CHECK.says("3, 4: 4 (the DESK stays; all stays as it is)");
        OuterRows x = Check.deskOf(Lines.DESK + ";put left k v at 1");
        x.keep();
        x.event(0, 0, 0, 1, 1);
        Check.desk(x, Lines.DESK + ";x");
        Check.more(x, "x");
        x.desk(99);
        x.more(99);
        CHECK.due("size(3)", x.size(3), 1);
        CHECK.due("rows", Check.rows(x), "k:v|-*2");
        CHECK.due("back()", x, x.back() ? 1 : 0, 1, 0);
        CHECK.due("rows", Check.rows(x), "k:v|-*1");
    }
}
