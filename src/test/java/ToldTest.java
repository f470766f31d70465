/** Promises 39 to 41: single, size, trouble. */
public final class ToldTest {
    private static final Check CHECK = new Check("ToldTest");

    public static void main(String[] args) {
        singles();
        sizes();
        troubles();
        CHECK.end();
    }

    private static void singles() {
        OuterRows x = Check.deskOf("desk inner keep 4 late 9;put left a v at 1;put right b v at 2;put left c v at 2;put right c w at 2;back left d v at 2;put right e w at 2");
        CHECK.due("single(0)", x.single(0), 0);
        CHECK.due("single(1)", x.single(1), 1);
        CHECK.due("single(2)", x.single(2), 4);
        CHECK.dueNoSingle(x, 3);
        CHECK.dueNoSingle(x, -1);
        CHECK.dueNoSingle(x, Integer.MAX_VALUE);
        x.tick(6);
        CHECK.due("of those that live", x.single(0), 1);
        x.event(0, 2, 0, -1, 6);
        CHECK.due("c now, too", x.single(1), 2);
        x.tick(99);
        CHECK.dueNoSingle(x, 0);
        CHECK.dueNoSingle(new OuterRows(), 0);
    }

    private static void sizes() {
        OuterRows x = new OuterRows();
        for (int what = 0; what < 5; what++) {
            CHECK.due("size(" + what + ") of a new one", x.size(what), 0);
        }
        x.feed(0, 0, 0, 0, 0);
        CHECK.due("size(0)", x.size(0), 20);
        Check.desk(x, "x");
        x = Check.deskOf("desk left keep 4 late 9;put left a v at 1;put right b v at 2;put left b v at 2");
        x.feed(0, 0, 0, 0, 0);
        x.feed(0, 0, 0, 0, 0);
        x.begin(3);
        x.begin(1);
        x.keep();
        int[] due = {40, 2, 3, 1, 2};
        for (int what = 0; what < 5; what++) {
            CHECK.due("size(" + what + ")", x.size(what), due[what]);
        }
        CHECK.due("size(5)", x.size(5), -1);
        CHECK.due("size(-1)", x.size(-1), -1);
        CHECK.due("size(MIN)", x.size(Integer.MIN_VALUE), -1);
    }

    private static void troubles() {
        OuterRows x = new OuterRows();
        CHECK.due("at first", x.trouble(), 0);
        x.desk(1);
        CHECK.due("2", x.trouble(), 2);
        x.size(99);
        x.feed(0, 0, 0, 0, 0);
        x.fault();
        x.where();
        x.trouble();
        CHECK.dueNoSingle(x, 0);
        CHECK.due("calls that may not be refused leave it", x.trouble(), 2);
        x.desk(20);
        CHECK.due("4", x.trouble(), 4);
        x.back();
        CHECK.due("1", x.trouble(), 1);
        Check.desk(x, "desk left keep 4 late 9;put left a v at 1");
        CHECK.due("0", x.trouble(), 0);
        x.net(9, 9, 9);
        x.single(0);
        CHECK.due("single() leaves it", x.trouble(), 1);
        x.net(0, 0, 0);
        CHECK.due("0 again", x.trouble(), 0);
    }
}
