/** Promises 29 to 32: would, nextLapse, replay, cost. */
public final class WouldTest {
    private static final Check CHECK = new Check("WouldTest");
    private static final int MIN = Check.MIN;

    public static void main(String[] args) {
        woulds();
        wouldsOfLapses();
        eventRefusals();
        nextLapses();
        replays();
        replaysOfSixty();
        costs();
        CHECK.end();
    }

    private static void woulds() {
        OuterRows x = Check.deskOf("desk full keep 99 late 9;put left a v by 2 at 20;put left a w at 20;back right a v at 20;put left b v at 20");
        CHECK.due("pays a debt", x, x.would(1, 0, 0, 1, 20), 0, 0);
        CHECK.due("outer rows go, rows come", x.would(1, 0, 0, 2, 20), 4);
        CHECK.due("one goes", x.would(0, 0, 1, -1, 20), 1);
        CHECK.due("into debt", x.would(0, 1, 1, -9, 20), 0);
        CHECK.due("at the edge of LATE", x.would(0, 0, 0, 1, 11), 1);
        CHECK.due("too late", x, x.would(0, 0, 0, 1, 10), -2, 0);
        CHECK.due("nothing came of it", Check.rows(x), "a:v|-*2 a:w|-*1 b:v|-*1");
        CHECK.due("the CLOCK stays", x.about(5), 20);
        CHECK.due("none too late", x.about(8), 0);
        CHECK.due("numbers stay", x.about(7), 4);
        CHECK.due("the log stays", x.size(1), 3);
    }

    private static void wouldsOfLapses() {
        OuterRows x = Check.deskOf("desk full keep 4 late 9;put left a v by 2 at 1;put right a w by 3 at 2;put left a w at 2");
        CHECK.due("joined with what lives", x.would(1, 0, 0, 1, 6), 2);
        CHECK.due("lapsed by then", x.would(1, 0, 0, 1, 7), 1);
        CHECK.due("taken from what lapsed by then", x.would(0, 0, 0, -1, 7), 0);
        CHECK.due("nothing lapsed", x.about(9), 0);
        x.bounds(1, 9);
        x.tick(3);
        CHECK.due("nothing lapsed", x.about(9), 0);
        x.bounds(99, 9);
        x.tick(50);
        x.bounds(1, 99);
        CHECK.due("an EVENT of an older TIME makes it lapse, too", x.would(1, 0, 0, 1, 49), 1);
        CHECK.due("and so it does", x.event(1, 0, 0, 1, 49), 1);
        CHECK.due("lapsed", x.about(9), 1);
    }

    private static void eventRefusals() {
        OuterRows x = Check.deskOf("desk full keep 4 late 9;put left a v at 1");
        int[][] unknown = {{2, 0, 0, 1, 1}, {-1, 0, 0, 1, 1}, {0, 1, 0, 1, 1}, {0, -1, 0, 1, 1}, {0, 0, 1, 1, 1}, {0, 0, -1, 1, 1},
            {0, 1, 0, 0, 1}, {0, 0, 1, 1, -1}};
        int[][] wrong = {{0, 0, 0, 0, 1}, {0, 0, 0, 10, 1}, {0, 0, 0, -10, 1}, {0, 0, 0, 1, -1}, {0, 0, 0, 1, 10000},
            {0, 0, 0, Integer.MIN_VALUE, 1}, {0, 0, 0, 1, Integer.MAX_VALUE}};
        for (int[] e : unknown) {
            CHECK.due("would", x, x.would(e[0], e[1], e[2], e[3], e[4]), -1, 1);
            CHECK.due("event", x, x.event(e[0], e[1], e[2], e[3], e[4]), -1, 1);
        }
        for (int[] e : wrong) {
            CHECK.due("would", x, x.would(e[0], e[1], e[2], e[3], e[4]), -1, 2);
            CHECK.due("event", x, x.event(e[0], e[1], e[2], e[3], e[4]), -1, 2);
        }
        CHECK.due("nothing came of it", x.about(7), 1);
        CHECK.due("many 9", x, x.would(0, 0, 0, 9, 0), 1, 0);
        CHECK.due("many -9", x, x.would(0, 0, 0, -9, 9999), 0, 0);
    }

    private static void nextLapses() {
        OuterRows x = Check.deskOf("desk full keep 4 late 9");
        CHECK.due("none lives", x, x.nextLapse(), -2, 0);
        Check.more(x, "put left a v at 5;put left b v at 3;put right c v at 3;put left d v at 4");
        CHECK.due("of like ones the least", x, x.nextLapse(), 1, 0);
        x.event(0, 1, 0, 1, 4);
        CHECK.due("another one", x.nextLapse(), 2);
        x.tick(8);
        CHECK.due("of those that live", x.nextLapse(), 1);
        x.tick(99);
        CHECK.due("none lives", x.nextLapse(), -2);
        CHECK.due("nextLapse() without a desk", new OuterRows().nextLapse(), -1);
    }

    private static void replays() {
        OuterRows x = Check.deskOf("desk left keep 4 late 9;put left a v by 2 at 1;put right a w by 3 at 2;tick 50;put right a w at 2;back left a v at 50;put left b v at 50");
        CHECK.due("the store", x.size(2), 4);
        // with four EVENTS and SEED 0 the DRAWS are 74, 5624, 28652: places 3 and 2, 2 and 2, 1 and 0 change
        // so they come as: put right a w by 3; put left a v by 2; put left b v; back left a v
        CHECK.due("replay(0, 0)", x, x.replay(0, 0), 3, 0);
        CHECK.due("replay(0, 1)", x, x.replay(0, 1), 2, 0);
        CHECK.due("replay(0, 2)", x, x.replay(0, 2), 4, 0);
        for (int seed = 0; seed < 200; seed++) {
            CHECK.due("rows in any order, seed " + seed, x.replay(seed, 1), 2);
            CHECK.due("their sum in any order, seed " + seed, x.replay(seed, 2), 4);
        }
        CHECK.due("the greatest SEED", x, x.replay(65536, 2), 4, 0);
        CHECK.due("replay(65537, 0)", x, x.replay(65537, 0), MIN, 2);
        CHECK.due("replay(-1, 0)", x, x.replay(-1, 0), MIN, 2);
        CHECK.due("replay(0, 3)", x, x.replay(0, 3), MIN, 1);
        CHECK.due("replay(-1, -1)", x, x.replay(-1, -1), MIN, 1);
        CHECK.due("replay without a desk", new OuterRows().replay(-1, 0), MIN);
        x.how(0);
        CHECK.due("by this HOW", x.replay(0, 0), 2);
        CHECK.due("by this HOW", x.replay(0, 1), 1);
        CHECK.due("nothing came of it", x.about(7), 5);
    }

    private static void replaysOfSixty() {
        OuterRows x = Check.deskOf("desk full keep 4 late 0;put left a v at 1;back left a v at 0");
        for (int i = 0; i < 70; i++) {
            x.event(0, 0, 0, 1, 1);
        }
        CHECK.due("the first sixty", x.size(2), 60);
        CHECK.due("replay of sixty", x.replay(7, 2), 60);
        CHECK.due("cost of sixty", x.cost(3), 60);
        CHECK.due("all", x.about(7), 71);
    }

    private static void costs() {
        OuterRows x = Check.deskOf("desk inner keep 4 late 9;put left a v by 2 at 1;put right a w by 3 at 2;tick 50;put left a u at 50;back right a w by 3 at 50");
        // put left v; put right w; put left u; back right w: (v,-) | (v,-) (v,w) | (u,w) | (v,w) (u,w) (v,-) (u,-)
        CHECK.due("cost(0)", x, x.cost(0), 4, 0);
        CHECK.due("cost(1)", x, x.cost(1), 8, 0);
        CHECK.due("cost(2)", x, x.cost(2), 4, 0);
        CHECK.due("cost(3)", x, x.cost(3), 8, 0);
        CHECK.due("cost(4)", x, x.cost(4), -1, 2);
        CHECK.due("cost(-1)", x, x.cost(-1), -1, 2);
        CHECK.due("HOW stays", x.about(0), 0);
        OuterRows none = new OuterRows();
        CHECK.due("cost(9) without a desk", none, none.cost(9), -1, 1);
    }
}
