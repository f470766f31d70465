/** Promises 13 to 23: sent, join, closed, rows, row, spell, traffic, log, flips, busiest, dearest. */
public final class RowsTest {
    private static final Check CHECK = new Check("RowsTest");
    private static final int MIN = Check.MIN;

    public static void main(String[] args) {
        changesByHow();
        changesInOrder();
        changesFromDebt();
        closedRows();
        rowRefusals();
        rowsInOrder();
        spelled();
        trafficOfAll();
        logOfSixty();
        flipsOfKeys();
        busiestAndDearest();
        CHECK.end();
    }

    private static void changesByHow() {
        String lines = " keep 99 late 9;put left a v by 2 at 1;put right a w by 3 at 2;back left a v by 2 at 3;back right a w by 3 at 4";
        String[] hows = {"inner", "left", "right", "full"};
        String[] due = {
            "0,0,1,6@2 0,0,1,-6@3",
            "0,0,-2,2@1 0,0,-2,-2@2 0,0,1,6@2 0,0,1,-6@3",
            "0,0,1,6@2 0,0,1,-6@3 0,-2,1,3@3 0,-2,1,-3@4",
            "0,0,-2,2@1 0,0,-2,-2@2 0,0,1,6@2 0,0,1,-6@3 0,-2,1,3@3 0,-2,1,-3@4",
        };
        for (int how = 0; how < 4; how++) {
            OuterRows x = Check.deskOf("desk " + hows[how] + lines);
            CHECK.due("log by " + hows[how], Check.log(x), due[how]);
            CHECK.due("rows by " + hows[how], x.rows(), 0);
        }
    }

    private static void changesInOrder() {
        OuterRows x = Check.deskOf("desk full keep 99 late 9;put left a u at 1;put left a v by 2 at 1;put left a w by 3 at 1;"
            + "put right a v by 2 at 2;put right a u at 3;back left a v at 4;back right a u by 9 at 5;back right a v by 2 at 6");
        CHECK.due("log", Check.log(x), "0,0,-2,1@1 0,1,-2,2@2 0,2,-2,3@3"
            + " 0,0,-2,-1@4 0,1,-2,-2@4 0,2,-2,-3@4 0,0,1,2@4 0,1,1,4@4 0,2,1,6@4"
            + " 0,0,0,1@5 0,1,0,2@5 0,2,0,3@5"
            + " 0,1,0,-1@6 0,1,1,-2@6"
            + " 0,0,0,-1@7 0,1,0,-1@7 0,2,0,-3@7"
            + " 0,0,1,-2@8 0,1,1,-2@8 0,2,1,-6@8 0,0,-2,1@8 0,1,-2,1@8 0,2,-2,3@8");
        CHECK.due("rows", Check.rows(x), "a:u|-*1 a:v|-*1 a:w|-*3");
    }

    private static void changesFromDebt() {
        OuterRows x = Check.deskOf("desk full keep 99 late 9;put right a w at 1;back left a v by 3 at 1;put left a v by 2 at 2");
        CHECK.due("nothing is there yet", Check.log(x), "0,-2,0,1@1");
        CHECK.due("one is there now", x.event(0, 0, 1, 3, 3), 2);
        CHECK.due("by two", x.sent(0, 1, 0), 2);
        CHECK.due("back by nine, two are there", x.event(0, 0, 1, -9, 3), 2);
        CHECK.due("log(1, 3)", x.log(1, 3), -2);
        CHECK.due("the outer row again", Check.rows(x), "a:-|w*1");
        CHECK.due("VALUES of the other SIDE in debt are not there", x.event(1, 0, 1, 1, 3), 1);
        CHECK.due("rows", Check.rows(x), "a:-|w*1 a:-|v*1");
    }

    private static void closedRows() {
        OuterRows x = Check.deskOf("desk full keep 4 late 9;put left a v by 2 at 1;put right a w by 3 at 2;put left b v at 3");
        CHECK.due("closed ahead", x.closed(0, 0, 1), 0);
        CHECK.due("tick", x.tick(7), 1);
        CHECK.due("sent stays", x.sent(0, 0, 1), 6);
        CHECK.due("join is none", x.join(0, 0, 1), 0);
        CHECK.due("closed", x.closed(0, 0, 1), 6);
        CHECK.due("nothing is sent", x.traffic(2), 4);
        CHECK.due("it lapses at an EVENT of another KEY", x.event(0, 0, 0, 1, 8), 1);
        CHECK.due("the other one", x.closed(1, 0, -1), 1);
        CHECK.due("lapsed", x.about(9), 2);
        x.event(1, 0, 1, 1, 8);
        CHECK.due("sent again", x.sent(0, 0, 1), 7);
        CHECK.due("joined again", x.join(0, 0, 1), 1);
        CHECK.due("closed is as it was", x.closed(0, 0, 1), 6);
        x.tick(99);
        CHECK.due("closed twice", x.closed(0, 0, 1), 7);
        CHECK.due("rows", Check.rows(x), "a:v|w*7 b:v|-*1");
    }

    private static void rowRefusals() {
        OuterRows x = Check.deskOf("desk full keep 4 late 9;put left a v by 2 at 1;put right a w by 3 at 2");
        int[][] wrong = {{-1, 0, 0}, {1, 0, 0}, {0, 2, 0}, {0, 0, 2}, {0, -2, 0}, {0, 0, -2}, {0, -1, -1}, {0, -1, 2}, {0, 8, 0}};
        for (int[] row : wrong) {
            String of = "(" + row[0] + ", " + row[1] + ", " + row[2] + ")";
            CHECK.due("sent" + of, x, x.sent(row[0], row[1], row[2]), MIN, 1);
            CHECK.due("join" + of, x, x.join(row[0], row[1], row[2]), -1, 1);
            CHECK.due("closed" + of, x, x.closed(row[0], row[1], row[2]), MIN, 1);
        }
        CHECK.due("sent(0, 0, 1)", x, x.sent(0, 0, 1), 6, 0);
        CHECK.due("join(0, 0, 1)", x, x.join(0, 0, 1), 6, 0);
        CHECK.due("closed(0, 0, 1)", x, x.closed(0, 0, 1), 0, 0);
        CHECK.due("sent(0, 0, -1)", x, x.sent(0, 0, -1), 0, 0);
        CHECK.due("join(0, 0, -1)", x, x.join(0, 0, -1), 0, 0);
    }

    private static void rowsInOrder() {
        // KEY a closes (none, v) and (v, none) first, so that rows with and without a none stand together
        OuterRows x = Check.deskOf("desk full keep 4 late 9;put right a v at 1;tick 9;put left a v by 2 at 9;tick 20;"
            + "put left a v at 20;put left a w at 20;put right a w by 3 at 20;put left b w at 20");
        CHECK.due("rows()", x, x.rows(), 5, 0);
        CHECK.due("rows", Check.rows(x), "a:v|w*3 a:v|-*2 a:w|w*3 a:-|v*1 b:w|-*1");
        int[][] due = {{0, 0, 1, 3}, {0, 0, -2, 2}, {0, 1, 1, 3}, {0, -2, 0, 1}, {1, 1, -2, 1}};
        for (int i = 0; i < due.length; i++) {
            for (int what = 0; what < 4; what++) {
                CHECK.due("row(" + i + ", " + what + ")", x, x.row(i, what), due[i][what], 0);
            }
        }
        CHECK.due("row(5, 0)", x, x.row(5, 0), MIN, 1);
        CHECK.due("row(-1, 0)", x, x.row(-1, 0), MIN, 1);
        CHECK.due("row(0, 4)", x, x.row(0, 4), MIN, 1);
        CHECK.due("row(0, -1)", x, x.row(0, -1), MIN, 1);
        CHECK.due("rows() without a desk", new OuterRows().rows(), -1);
    }

    private static void spelled() {
        OuterRows x = Check.deskOf("desk full keep 99 late 9;put left abcde vwxyz by 9 at 1;put right abcde v by 9 at 1;put right abcde v by 4 at 1");
        String due = "abcde:vwxyz|v*117";
        CHECK.due("rows", Check.rows(x), due);
        for (int j = 0; j < due.length(); j++) {
            CHECK.due("spell(0, " + j + ")", x, x.spell(0, j), due.charAt(j), 0);
        }
        CHECK.due("behind its end", x, x.spell(0, due.length()), -1, 0);
        CHECK.due("far behind its end", x, x.spell(0, Integer.MAX_VALUE), -1, 0);
        CHECK.due("spell(0, -1)", x, x.spell(0, -1), -1, 1);
        CHECK.due("spell(1, 0)", x, x.spell(1, 0), -1, 1);
        CHECK.due("spell(-1, 0)", x, x.spell(-1, 0), -1, 1);
    }

    private static void trafficOfAll() {
        OuterRows x = Check.deskOf("desk full keep 99 late 9");
        for (int what = 0; what < 4; what++) {
            CHECK.due("traffic(" + what + ") of none", x, x.traffic(what), 0, 0);
        }
        Check.more(x, "put left a v by 2 at 1;put left a w by 3 at 2;put right a v by 4 at 3;back left a w at 3");
        int[] due = {2 + 3 + 8 + 12, 2 + 3 + 4, 7, 4};
        for (int what = 0; what < 4; what++) {
            CHECK.due("traffic(" + what + ")", x, x.traffic(what), due[what], 0);
        }
        Check.more(x, "put left b v at 4;put left c v at 4;put left d v at 4;put left e v at 4;put left f v at 4");
        CHECK.due("an exchange", x.how(2), 5);
        CHECK.due("traffic(1) with it", x.traffic(1), 14);
        CHECK.due("traffic(3) with it", x.traffic(3), 5);
        CHECK.due("traffic(4)", x, x.traffic(4), -1, 1);
        CHECK.due("traffic(-1)", x, x.traffic(-1), -1, 1);
    }

    private static void logOfSixty() {
        OuterRows x = Check.deskOf("desk left keep 999 late 9;put left a v at 1;put left b w at 1");
        for (int i = 3; i <= 60; i++) {
            CHECK.due("event", x.event(0, i % 2, i % 2, 1 + i % 9, 2), 1);
        }
        CHECK.due("sixty", x.size(1), 60);
        CHECK.due("the oldest", x, x.log(59, 4), 1, 0);
        CHECK.due("none behind it", x, x.log(60, 4), MIN, 1);
        x.event(0, 1, 0, -1, 3);
        x.event(0, 1, 0, 9, 3);
        x.event(0, 0, 0, -9, 3);
        CHECK.due("sixty still", x.size(1), 60);
        int[] latest = {0, 0, -2, -9, 63};
        int[] next = {1, 0, -2, 8, 62};
        for (int what = 0; what < 5; what++) {
            CHECK.due("log(0, " + what + ")", x, x.log(0, what), latest[what], 0);
            CHECK.due("log(1, " + what + ")", x, x.log(1, what), next[what], 0);
        }
        CHECK.due("log(2, 3) is of number 60", x.log(2, 3), 1 + 60 % 9);
        CHECK.due("the oldest now", x.log(59, 4), 3);
        CHECK.due("log(60, 0)", x, x.log(60, 0), MIN, 1);
        CHECK.due("log(-1, 0)", x, x.log(-1, 0), MIN, 1);
        CHECK.due("log(0, 5)", x, x.log(0, 5), MIN, 1);
        CHECK.due("log(0, -1)", x, x.log(0, -1), MIN, 1);
        CHECK.due("all of them", x.traffic(2), 62);
    }

    private static void flipsOfKeys() {
        OuterRows x = Check.deskOf("desk inner keep 4 late 9;put left a v at 1;put left a w at 1;back left a v at 1;back left a w at 1;"
            + "back left a w at 1;put left a w at 1;put left a w at 1;put right b v at 1");
        CHECK.due("flips(0, 0)", x, x.flips(0, 0), 3, 0);
        CHECK.due("flips(1, 0)", x, x.flips(1, 0), 0, 0);
        CHECK.due("flips(1, 1)", x, x.flips(1, 1), 1, 0);
        x.tick(6);
        CHECK.due("flips by a lapse", x.flips(0, 0), 4);
        CHECK.due("no flip of a SIDE that didn't have it", x.flips(1, 0), 0);
        CHECK.due("flips of the other KEY by a lapse", x.flips(1, 1), 2);
        x.event(0, 0, 0, 1, 6);
        CHECK.due("flips again", x.flips(0, 0), 5);
        CHECK.due("flips(2, 0)", x, x.flips(2, 0), -1, 1);
        CHECK.due("flips(-1, 0)", x, x.flips(-1, 0), -1, 1);
        CHECK.due("flips(0, 2)", x, x.flips(0, 2), -1, 1);
        CHECK.due("flips(0, -1)", x, x.flips(0, -1), -1, 1);
    }

    private static void busiestAndDearest() {
        OuterRows x = Check.deskOf("desk full keep 99 late 9;back left a v at 1");
        CHECK.due("busiest() of none", x, x.busiest(), -2, 0);
        CHECK.due("dearest() of none", x, x.dearest(), -2, 0);
        Check.more(x, "put left b v at 1;put left c v at 1");
        CHECK.due("the first of several KEYS", x, x.busiest(), 1, 0);
        CHECK.due("the first of several EVENTS", x, x.dearest(), 2, 0);
        Check.more(x, "put right c v at 1");
        CHECK.due("the KEY that sent most", x.busiest(), 2);
        CHECK.due("the EVENT that sent most", x.dearest(), 4);
        Check.more(x, "put right b v at 1;put left a v by 2 at 2;put left d v at 2");
        CHECK.due("of several the first", x.busiest(), 1);
        CHECK.due("of several the first", x.dearest(), 4);
        x.how(2);
        x.how(3);
        Check.more(x, "put left e v at 2");
        CHECK.due("exchanges of two only", x.dearest(), 4);
        x.how(0);
        CHECK.due("an exchange of three", x.dearest(), 11);
        CHECK.due("key(1, 4)", x.key(1, 4), 3);
        CHECK.due("busiest() without a desk", new OuterRows().busiest(), -1);
        CHECK.due("dearest() without a desk", new OuterRows().dearest(), -1);
    }
}
