/** Promises 33 to 38: event, tick, how, bounds, keep, back. */
public final class ActTest {
    private static final Check CHECK = new Check("ActTest");

    public static void main(String[] args) {
        events();
        lateEvents();
        ticks();
        exchanges();
        exchangesInOrder();
        otherBounds();
        keepsAndBacks();
        keepsOfAll();
        keepRefusals();
        CHECK.end();
    }

    private static void events() {
        OuterRows x = Check.deskOf("desk full keep 4 late 9;put left a v by 2 at 1;put right b w at 1");
        CHECK.due("event", x, x.event(1, 0, 1, 3, 2), 2, 0);
        CHECK.due("rows", Check.rows(x), "a:v|w*6 b:-|w*1");
        CHECK.due("taken back", x.event(0, 0, 0, -2, 3), 2);
        CHECK.due("rows", Check.rows(x), "a:-|w*3 b:-|w*1");
        CHECK.due("ahead of being put", x.event(0, 0, 0, -2, 3), 0);
        CHECK.due("net", x.net(0, 0, 0), -2);
        CHECK.due("a KEY lapses ahead of its own EVENT", x.event(1, 0, 1, -1, 8), 0);
        CHECK.due("debt", x.net(1, 0, 1), -1);
        CHECK.due("closed", x.closed(0, -1, 1), 3);
        CHECK.due("it lives", x.key(0, 0), 1);
        CHECK.due("the other one lapsed", x.key(1, 0), 0);
        CHECK.due("numbers", x.about(7), 6);
        CHECK.due("the store", x.size(2), 6);
    }

    private static void lateEvents() {
        OuterRows x = Check.deskOf("desk full keep 99 late 3;put left a v at 10");
        CHECK.due("at the edge", x, x.event(0, 0, 0, 1, 7), 1, 0);
        CHECK.due("too late", x, x.event(0, 0, 0, 1, 6), -2, 0);
        CHECK.due("counted", x.about(8), 1);
        CHECK.due("not stored", x.size(2), 2);
        CHECK.due("no number", x.about(7), 2);
        CHECK.due("not there", x.net(0, 0, 0), 2);
        x.bounds(99, 4);
        CHECK.due("not too late by another LATE", x.event(0, 0, 0, 1, 6), 1);
        x.bounds(1, 0);
        CHECK.due("too late ones make nothing lapse", x.event(0, 0, 0, 1, 9), -2);
        x.tick(12);
        CHECK.due("lapsed", x.about(9), 1);
        CHECK.due("at CLOCK", x.event(0, 0, 0, 1, 12), 1);
    }

    private static void ticks() {
        OuterRows x = Check.deskOf("desk full keep 4 late 9;put left a v at 1;put left b v at 1;put left c v at 3");
        CHECK.due("tick(5)", x, x.tick(5), 0, 0);
        CHECK.due("tick(6)", x, x.tick(6), 2, 0);
        CHECK.due("tick(2) doesn't go back", x, x.tick(2), 0, 0);
        CHECK.due("CLOCK", x.about(5), 6);
        CHECK.due("tick(9999)", x, x.tick(9999), 1, 0);
        CHECK.due("CLOCK", x.about(5), 9999);
        CHECK.due("no numbers", x.about(7), 3);
        CHECK.due("nothing sent", x.traffic(2), 3);
        CHECK.due("tick(-1)", x, x.tick(-1), -1, 2);
        CHECK.due("tick(10000)", x, x.tick(10000), -1, 2);
        OuterRows none = new OuterRows();
        CHECK.due("tick(-1) without a desk", none, none.tick(-1), -1, 1);
        x = Check.deskOf("desk full keep 4 late 9;put left a v at 1");
        x.tick(4);
        x.bounds(1, 9);
        CHECK.due("an older tick makes what is due lapse, too", x.tick(0), 1);
    }

    private static void exchanges() {
        String lines = " keep 99 late 9;put left a v by 2 at 1;put right b w at 1;put left c v at 1;put right c v at 1;put left d v at 1;back left d v at 1";
        String[] hows = {"inner", "left", "right", "full"};
        String[] rows = {"c:v|v*1", "a:v|-*2 c:v|v*1", "b:-|w*1 c:v|v*1", "a:v|-*2 b:-|w*1 c:v|v*1"};
        for (int from = 0; from < 4; from++) {
            for (int to = 0; to < 4; to++) {
                OuterRows x = Check.deskOf("desk " + hows[from] + lines);
                CHECK.due(from + " to " + to, x, x.how(to), Integer.bitCount(from ^ to), 0);
                CHECK.due("rows " + from + " to " + to, Check.rows(x), rows[to]);
                CHECK.due("about(0)", x.about(0), to);
                CHECK.due("it has a number", x.about(7), 7);
                CHECK.due("it isn't stored", x.size(2), 6);
            }
        }
        OuterRows x = Check.deskOf("desk full keep 9 late 9");
        CHECK.due("how(4)", x, x.how(4), -1, 2);
        CHECK.due("how(-1)", x, x.how(-1), -1, 2);
        CHECK.due("no number", x.about(7), 0);
        OuterRows none = new OuterRows();
        CHECK.due("how(4) without a desk", none, none.how(4), -1, 1);
    }

    private static void exchangesInOrder() {
        OuterRows x = Check.deskOf("desk left keep 9 late 9;put left a w by 2 at 1;put left a v at 1;put right b v by 3 at 1;put right b w by 4 at 1;"
            + "put left c v at 1;put left d v at 1");
        x.event(0, 3, 0, 1, 9);
        x.event(0, 2, 0, 1, 9);
        x.event(1, 1, 1, 1, 9);
        x.event(0, 0, 1, 1, 9);
        CHECK.due("an exchange", x.how(2), 8);
        String log = Check.log(x);
        CHECK.due("by KEYS, by VALUES", log.substring(log.indexOf("0,0,-2,-2")), "0,0,-2,-2@11 0,1,-2,-2@11 1,-2,0,4@11 1,-2,1,4@11"
            + " 2,0,-2,-1@11 2,1,-2,-1@11 3,0,-2,-1@11 3,1,-2,-1@11");
        x.tick(18);
        x.bounds(1, 9);
        CHECK.due("the same HOW", x.how(2), 0);
        CHECK.due("number", x.about(7), 12);
        CHECK.due("an exchange makes nothing lapse", x.about(9), 0);
        x.tick(18);
        CHECK.due("of KEYS that live", x.how(3), 0);
        CHECK.due("SENT stays with what is closed", Check.rows(x), "b:-|w*4 b:-|v*4");
    }

    private static void otherBounds() {
        OuterRows x = Check.deskOf("desk full keep 9 late 9;put left a v at 1;tick 9");
        CHECK.due("bounds(1, 0)", x.bounds(1, 0), true);
        CHECK.due("trouble()", x.trouble(), 0);
        CHECK.due("nothing lapses by that alone", x.key(0, 0), 1);
        CHECK.due("KEEP", x.about(1), 1);
        CHECK.due("LATE", x.about(2), 0);
        CHECK.due("bounds(999, 999)", x.bounds(999, 999), true);
        int[][] wrong = {{0, 5}, {1000, 5}, {5, -1}, {5, 1000}, {-1, -1}};
        for (int[] w : wrong) {
            CHECK.due("bounds", x.bounds(w[0], w[1]), false);
            CHECK.due("trouble()", x.trouble(), 2);
        }
        CHECK.due("KEEP stays", x.about(1), 999);
        CHECK.due("LATE stays", x.about(2), 999);
        OuterRows none = new OuterRows();
        CHECK.due("bounds without a desk", none.bounds(0, 0), false);
        CHECK.due("trouble()", none.trouble(), 1);
    }

    private static void keepsAndBacks() {
        OuterRows x = Check.deskOf("desk full keep 9 late 9;put left a v by 2 at 1");
        CHECK.due("back() of nothing", x.back(), false);
        CHECK.due("trouble()", x.trouble(), 1);
        CHECK.due("keep()", x.keep(), true);
        CHECK.due("trouble()", x.trouble(), 0);
        CHECK.due("size(3)", x.size(3), 1);
        x.event(1, 0, 0, 3, 2);
        CHECK.due("rows", Check.rows(x), "a:v|v*6");
        CHECK.due("back()", x.back(), true);
        CHECK.due("trouble()", x.trouble(), 0);
        CHECK.due("rows as kept", Check.rows(x), "a:v|-*2");
        x.event(0, 0, 0, -1, 2);
        CHECK.due("back() again: it stays kept", x.back(), true);
        CHECK.due("rows as kept", Check.rows(x), "a:v|-*2");
        x.event(0, 0, 0, 5, 2);
        x.keep();
        x.tick(99);
        x.back();
        CHECK.due("what was kept before is no more", Check.rows(x), "a:v|-*7");
        CHECK.due("it lives", x.key(0, 0), 1);
    }

    private static void keepsOfAll() {
        OuterRows x = Check.deskOf("desk full keep 9 late 2;put left a v by 2 at 1;tick 20;put left b w by 2 at 20;put left b w at 1");
        x.begin(0);
        x.event(1, 1, 0, 3, 20);
        x.begin(1);
        x.pull(0);
        x.keep();
        String before = Dump.of(x);
        Check.more(x, "put left c u at 21;put right d t by 9 at 30;put left a v at 2;tick 60");
        x.how(1);
        x.bounds(5, 5);
        x.pull(0);
        x.begin(2);
        x.begin(3);
        x.pull(1);
        for (int i = 0; i < 80; i++) {
            x.event(0, 2, 2, 1, 60);
        }
        CHECK.due("all is other", Dump.of(x).equals(before), false);
        x.back();
        CHECK.due("all is as it was kept", Dump.of(x), before);
        CHECK.due("it goes on from there", Check.more(x, "put left e s at 21"), 1);
        CHECK.due("with its KEYS", x.about(3), 3);
    }

    private static void keepRefusals() {
        OuterRows none = new OuterRows();
        CHECK.due("keep() without a desk", none.keep(), false);
        CHECK.due("trouble()", none.trouble(), 1);
        CHECK.due("back() without a desk", none.back(), false);
        CHECK.due("trouble()", none.trouble(), 1);
        CHECK.due("size(3)", none.size(3), 0);
    }
}
