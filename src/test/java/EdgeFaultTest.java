/** Terms I, the FAULTS with their places, and promises 5 and 6. */
public final class EdgeFaultTest {
    private static final Check CHECK = new Check("EdgeFaultTest");
    private static final Lines LINES = new Lines(CHECK);
    private static final int DESK_END = Lines.DESK.length();

    public static void main(String[] args) {
        firstFromTheLeft();
        firstOfTwoLines();
        leastNumberOfOnePlace();
        leastNumberBehindForty();
        formAtTheEnd();
        wholesOutOfBounds();
        secondDesk();
        anyDeskOfMore();
        linesAheadOfTheDesk();
        noDeskAtTheEnd();
        faultOfTheLatest();
        faultStaysByOneAndTwo();
        whereOnlyByFour();
        whereOfPlaceZero();
        CHECK.end();
    }

    private static void firstFromTheLeft() {
        CHECK.says("FAULTS, the first that is met from the left");
        LINES.faulty("put left k v by 0 at 1 %", 2, 16);
        LINES.faulty("put left k v % by 0", 1, 13);
        LINES.faulty("put left k v by 10 x", 2, 16);
        LINES.faulty("put left k v by 10 at 10000", 2, 16);
        LINES.faulty("tick 12345;put left k v by 10 at 1", 1, 5);
        LINES.deskFaulty("desk full keep 0 late 1000", 2, 15);
        LINES.deskFaulty("desk full keep 0 x", 2, 15);
        LINES.deskFaulty("desk fuller keep 0", 1, 5);
    }

    private static void firstOfTwoLines() {
        CHECK.says("FAULTS, the first that is met from the left");
        LINES.faulty("tick 1;put left k v by 0 at 1;desk", 2, 23);
        LINES.faulty("tick 1;desk;put left k v by 0 at 1", 3, 7);
        LINES.faulty("tick 1;desk %", 3, 7);
        LINES.deskFaulty("tick 1;%", 5, 0);
        LINES.deskFaulty("tick %", 5, 0);
        LINES.deskFaulty("% tick 1", 1, 0);
        String nine = "put left a v at 1;put left b v at 1;put left c v at 1;put left d v at 1;put left e v at 1;"
            + "put left f v at 1;put left g v at 1;put left h v at 1;put left i v";
        LINES.faulty(nine + " by 0", 4, nine.length() - 3);
        LINES.faulty(nine + " %", 4, nine.length() - 3);
    }

    private static void leastNumberOfOnePlace() {
        CHECK.says("of one place the least number");
        LINES.deskFaulty("", 1, 0);
        LINES.deskFaulty("  ", 1, 2);
        LINES.deskFaulty("left", 1, 0);
        String eight = "put left a a at 1;put left b b at 1;put left c c at 1;put left d d at 1;put left e e at 1;"
            + "put left f f at 1;put left g g at 1;put left h h at 1";
        String[] names = {"desk", "put", "back", "tick", "by", "at", "abcdef", "1", ";"};
        for (String name : names) {
            LINES.faulty(eight + ";put left " + name, 1, eight.length() + 10);
            LINES.faulty(eight + ";put left a " + name, 1, eight.length() + 12);
        }
    }

    private static void leastNumberBehindForty() {
        CHECK.says("of one place the least number: a 41st LINE");
        String forty = Lines.times(40, "tick 1");
        int at = forty.length() + 1;
        LINES.faulty(forty + ";", 1, at);
        LINES.faulty(forty + ";left", 1, at);
        LINES.faulty(forty + ";ticks 1", 1, at);
        LINES.faulty(forty + ";1", 1, at);
        LINES.faulty(forty + ";;", 1, at);
        LINES.faulty(forty + ";%", 1, at);
        LINES.faulty(forty + ";desk", 3, at);
        LINES.faulty(forty + ";tick", 4, at);
        LINES.faulty(forty + ";put %", 4, at);
        LINES.faulty(forty + ";back", 4, at);
    }

    private static void formAtTheEnd() {
        CHECK.says("1 FORM: .. (the end: its place)");
        LINES.faulty("tick", 1, 4);
        LINES.faulty("tick   ", 1, 7);
        LINES.faulty("put left k v by 2", 1, 17);
        LINES.faulty("tick 1 ; ", 1, 9);
        OuterRows x = Check.deskOf(Lines.DESK);
        Check.feed(x, "tick 77");
        CHECK.dueFault("the end is that of n bytes", x, x.more(5), 1, 5);
        Check.feed(x, "tick 77");
        CHECK.dueFault("a TOKEN ends there, too", x, x.more(3), 1, 0);
    }

    private static void wholesOutOfBounds() {
        CHECK.says("2 a WHOLE out of bounds; at it");
        LINES.deskFaulty("  desk  full  keep  0", 2, 20);
        LINES.deskFaulty("desk full keep 1000", 2, 15);
        LINES.deskFaulty("desk full keep 999 late 1000", 2, 24);
        LINES.faulty("put left k v by   0", 2, 18);
        LINES.faulty("put left k v by10", 2, 15);
    }

    private static void secondDesk() {
        CHECK.says("3 AGAIN: a second desk; at that WORD");
        LINES.deskFaulty(Lines.DESK + ";" + Lines.DESK, 3, DESK_END + 1);
        LINES.deskFaulty(Lines.DESK + ";  desk", 3, DESK_END + 3);
        LINES.deskFaulty(Lines.DESK + ";desk full keep 0", 3, DESK_END + 1);
        LINES.deskFaulty(Lines.DESK + ";tick 1;desk", 3, DESK_END + 8);
        LINES.deskFaulty(Lines.DESK + " desk", 1, DESK_END + 1);
    }

    private static void anyDeskOfMore() {
        CHECK.says("3 AGAIN: in MORE any; at that WORD");
        LINES.moreFaulty("desk", 3, 0);
        LINES.moreFaulty("  " + Lines.DESK, 3, 2);
        LINES.moreFaulty("tick 1 ; desk", 3, 9);
    }

    private static void linesAheadOfTheDesk() {
        CHECK.says("5 LACKS: any LINE ahead of the desk, at its WORD");
        String[] lines = {"tick", "tick 1", "tick x", "put", "put left k v at 1", "put left k v by 0", "back", "back right k v at 1"};
        for (String line : lines) {
            LINES.deskFaulty(line, 5, 0);
            LINES.deskFaulty("   " + line, 5, 3);
            LINES.deskFaulty(line + ";" + Lines.DESK, 5, 0);
        }
    }

    private static void noDeskAtTheEnd() {
        CHECK.says("5 LACKS: at the end: no desk (not in MORE)");
        // a text without a LINE ends where a LINE is due: FORM is less
        LINES.deskFaulty("", 1, 0);
        LINES.sound("tick 1");
        LINES.moreFaulty("", 1, 0);
        OuterRows x = Check.deskOf(Lines.DESK);
        Check.desk(x, "tick 1");
        CHECK.due("MORE behind a TEXT that had no desk", x, Check.more(x, "tick 1"), 0, 0);
    }

    private static void faultOfTheLatest() {
        CHECK.says("The FAULT of the latest desk(), more(); 0 without one");
        OuterRows x = new OuterRows();
        CHECK.due("at first", x.fault(), 0);
        String[] texts = {"%", "desk full keep 0", Lines.DESK + ";desk", Lines.DESK + ";" + Lines.times(41, "tick 1"), "tick 1"};
        for (int i = 0; i < texts.length; i++) {
            Check.desk(x, texts[i]);
            CHECK.due("fault() " + (i + 1), x.fault(), i + 1);
        }
        Check.desk(x, Lines.DESK);
        CHECK.due("without one", x.fault(), 0);
        Check.more(x, "desk");
        CHECK.due("of more()", x.fault(), 3);
        Check.more(x, "tick 1");
        CHECK.due("of a sound more()", x.fault(), 0);
        Check.desk(x, "tick 1");
        CHECK.due("of desk()", x.fault(), 5);
        x.event(0, 0, 0, 1, 1);
        x.tick(1);
        x.keep();
        CHECK.due("of the latest text still", x.fault(), 5);
    }

    private static void faultStaysByOneAndTwo() {
        CHECK.says("the latest desk(), more() not refused by 1, 2");
        OuterRows x = new OuterRows();
        Check.desk(x, "tick 1");
        x.more(0);
        CHECK.due("fault() behind more() refused by 1", x.fault(), 5);
        x.desk(1);
        CHECK.due("fault() behind desk() refused by 2", x.fault(), 5);
        Check.desk(x, Lines.DESK);
        Check.more(x, "desk");
        x.more(1);
        CHECK.due("fault() behind more() refused by 2", x.fault(), 3);
        x.more(-1);
        CHECK.due("fault() behind more(-1)", x.fault(), 3);
        Check.more(x, "tick 1");
        x.desk(-1);
        CHECK.due("0 stays, too", x.fault(), 0);
    }

    private static void whereOnlyByFour() {
        CHECK.says("Its place, if the latest call that may be refused was by 4; NONE else");
        OuterRows x = new OuterRows();
        CHECK.due("at first", x.where(), -1);
        Check.desk(x, "desk odd");
        CHECK.due("by 4", x.where(), 5);
        CHECK.due("asked again", x.where(), 5);
        x.feed(0, 0, 0, 0, 0);
        x.fault();
        x.trouble();
        x.size(0);
        x.size(9);
        CHECK.dueNoSingle(x, 0);
        CHECK.due("behind calls that may not be refused", x.where(), 5);
        x.rows();
        CHECK.due("behind a call refused by 1", x.where(), -1);
        Check.desk(x, "desk odd");
        x.desk(99);
        CHECK.due("behind a call refused by 2", x.where(), -1);
        Check.desk(x, Lines.DESK);
        CHECK.due("behind a call not refused", x.where(), -1);
        Check.more(x, "tick 1;  x");
        CHECK.due("by 4 of more()", x.where(), 9);
        x.about(0);
        CHECK.due("behind a question not refused", x.where(), -1);
    }

    private static void whereOfPlaceZero() {
        CHECK.says("Its place");
        OuterRows x = new OuterRows();
        CHECK.due("desk(0)", x, x.desk(0), -1, 4);
        CHECK.due("place 0", x.where(), 0);
    }
}
