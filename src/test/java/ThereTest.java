/** Promises 9 to 12: net, there, key, debts. */
public final class ThereTest {
    private static final Check CHECK = new Check("ThereTest");
    private static final int MIN = Check.MIN;

    public static void main(String[] args) {
        nets();
        theres();
        keys();
        keysThatLapse();
        keysOfLateEvents();
        debts();
        CHECK.end();
    }

    private static OuterRows desk() {
        return Check.deskOf("desk full keep 4 late 6;put left a v by 3 at 1;back left a w by 2 at 2;"
            + "put right a w at 2;back right b v by 4 at 3;put left a w by 5 at 3;back left b w at 4");
    }

    private static void nets() {
        OuterRows x = desk();
        int[][] due = {{3, 3, 0, -1}, {0, 1, -4, 0}};
        for (int side = 0; side < 2; side++) {
            for (int i = 0; i < 4; i++) {
                CHECK.due("net(" + side + ", " + i / 2 + ", " + i % 2 + ")", x, x.net(side, i / 2, i % 2), due[side][i], 0);
            }
        }
        CHECK.due("net(-1, 0, 0)", x, x.net(-1, 0, 0), MIN, 1);
        CHECK.due("net(2, 0, 0)", x, x.net(2, 0, 0), MIN, 1);
        CHECK.due("net(0, 2, 0)", x, x.net(0, 2, 0), MIN, 1);
        CHECK.due("net(0, -1, 0)", x, x.net(0, -1, 0), MIN, 1);
        CHECK.due("net(0, 0, 2)", x, x.net(0, 0, 2), MIN, 1);
        CHECK.due("net(0, 0, -1)", x, x.net(0, 0, -1), MIN, 1);
    }

    private static void theres() {
        OuterRows x = desk();
        CHECK.due("there(0, 0)", x, x.there(0, 0), 6, 0);
        CHECK.due("there(1, 0)", x, x.there(1, 0), 1, 0);
        CHECK.due("there(0, 1)", x, x.there(0, 1), 0, 0);
        CHECK.due("there(1, 1)", x, x.there(1, 1), 0, 0);
        CHECK.due("there(2, 0)", x, x.there(2, 0), -1, 1);
        CHECK.due("there(-1, 0)", x, x.there(-1, 0), -1, 1);
        CHECK.due("there(0, 2)", x, x.there(0, 2), -1, 1);
        CHECK.due("there(0, -1)", x, x.there(0, -1), -1, 1);
    }

    private static void keys() {
        OuterRows x = desk();
        int[][] due = {{1, 3, 8, 0, 4}, {1, 4, 9, 0, 0}};
        for (int k = 0; k < 2; k++) {
            for (int what = 0; what < 5; what++) {
                CHECK.due("key(" + k + ", " + what + ")", x, x.key(k, what), due[k][what], 0);
            }
        }
        CHECK.due("key(2, 0)", x, x.key(2, 0), -1, 1);
        CHECK.due("key(-1, 0)", x, x.key(-1, 0), -1, 1);
        CHECK.due("key(0, 5)", x, x.key(0, 5), -1, 1);
        CHECK.due("key(0, -1)", x, x.key(0, -1), -1, 1);
        x.bounds(900, 6);
        CHECK.due("key(0, 2) with another KEEP", x.key(0, 2), 904);
    }

    private static void keysThatLapse() {
        OuterRows x = desk();
        CHECK.due("a tick ahead of it", x.tick(7), 0);
        CHECK.due("key(0, 2)", x.key(0, 2), 8);
        CHECK.due("the tick of it", x.tick(8), 1);
        int[] due = {0, -2, -2, 1, 4};
        for (int what = 0; what < 5; what++) {
            CHECK.due("key(0, " + what + ") lapsed", x, x.key(0, what), due[what], 0);
        }
        CHECK.due("net(0, 0, 0) lapsed", x.net(0, 0, 0), 0);
        x.event(0, 0, 0, 1, 5);
        CHECK.due("lives again, latest TIME below CLOCK", x.key(0, 1), 5);
        CHECK.due("key(0, 2) again", x.key(0, 2), 10);
        x.event(0, 0, 0, 1, 4);
        CHECK.due("an older EVENT doesn't count", x.key(0, 1), 5);
        x.tick(10);
        CHECK.due("lapsed twice", x.key(0, 3), 2);
        CHECK.due("lapses of all", x.about(9), 3);
    }

    private static void keysOfLateEvents() {
        OuterRows x = Check.deskOf("desk full keep 4 late 2;put left a v at 9;put left b v at 6;put left a v at 7");
        CHECK.due("too late ones don't count", x.key(1, 0), 0);
        CHECK.due("latest", x.key(1, 1), -2);
        CHECK.due("latest of a", x.key(0, 1), 9);
        CHECK.due("net", x.net(0, 1, 0), 0);
        CHECK.due("net of a", x.net(0, 0, 0), 2);
    }

    private static void debts() {
        OuterRows x = desk();
        CHECK.due("debts(0)", x, x.debts(0), 1, 0);
        CHECK.due("debts(1)", x, x.debts(1), 1, 0);
        CHECK.due("debts(2)", x, x.debts(2), -1, 1);
        CHECK.due("debts(-1)", x, x.debts(-1), -1, 1);
        x.event(0, 0, 1, -9, 4);
        CHECK.due("the same VALUE of two KEYS", x.debts(0), 2);
        x.event(0, 0, 0, -3, 4);
        CHECK.due("a NET of 0 is none", x.debts(0), 2);
        x.tick(99);
        CHECK.due("none when lapsed", x.debts(0), 0);
        CHECK.due("debts without a desk", new OuterRows().debts(0), -1);
    }
}
