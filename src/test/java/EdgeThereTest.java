/** Terms II: NET, THERE, CLOCK, TOO LATE, LAPSES; promises 9 to 12 at their bounds. */
public final class EdgeThereTest {
    private static final Check CHECK = new Check("EdgeThereTest");
    private static final int MIN = Check.MIN;

    public static void main(String[] args) {
        clockAtFirst();
        clockIsTheGreatest();
        netsBelowZero();
        thereIsZeroBelow();
        thereOfManyValues();
        netOfMinusOneIsNoRefusal();
        wrongSidesKeysValues();
        lateOnTheEdge();
        lateOfZero();
        lateAboveClock();
        nothingElseComesOfLateOnes();
        lapseOnTheEdge();
        lapseOfKeepBounds();
        lapseAtAnEvent();
        lapseOfItsOwnKey();
        lapseAtAnOlderEvent();
        lapsedNets();
        latestOfOneThatLives();
        latestOfOneThatLapsed();
        keyWhats();
        leastClockOfLapse();
        lapsesOfAKey();
        changesOfAKey();
        debtsOfNone();
        debtsOfAll();
        CHECK.end();
    }

    private static void clockAtFirst() {
        CHECK.says("CLOCK (0 at first)");
        CHECK.due("CLOCK", Check.deskOf("desk full keep 9 late 0").about(5), 0);
        CHECK.due("at TIME 0 nothing is TOO LATE", Check.deskOf("desk full keep 9 late 0;put left k v at 0").about(7), 1);
    }

    private static void clockIsTheGreatest() {
        CHECK.says("CLOCK: the greatest TIME that was told");
        OuterRows x = Check.deskOf("desk full keep 9 late 9;put left k v at 5;put left k v at 4");
        CHECK.due("behind an older EVENT", x.about(5), 5);
        x.event(0, 0, 0, 1, 6);
        CHECK.due("behind an EVENT", x.about(5), 6);
        x.tick(7);
        CHECK.due("behind a tick", x.about(5), 7);
        x.tick(6);
        CHECK.due("behind an older tick", x.about(5), 7);
        x.event(0, 0, 0, 1, 9999);
        CHECK.due("the greatest", x.about(5), 9999);
    }

    private static void netsBelowZero() {
        CHECK.says("NET: how often it was put less how often taken back (may be below 0)");
        OuterRows x = Check.deskOf("desk full keep 9 late 9;put left k v at 1");
        int[] manies = {-1, -1, -9, 1, 9, 1};
        int net = 1;
        for (int many : manies) {
            x.event(0, 0, 0, many, 1);
            net += many;
            CHECK.due("net", x, x.net(0, 0, 0), net, 0);
            CHECK.due("there", x, x.there(0, 0), Math.max(0, net), 0);
        }
        CHECK.due("the other SIDE's", x, x.net(1, 0, 0), 0, 0);
    }

    private static void thereIsZeroBelow() {
        CHECK.says("THERE: NET, but 0 if it is below");
        OuterRows x = Check.deskOf("desk full keep 9 late 9;back left k v by 9 at 1");
        CHECK.due("of -9", x, x.there(0, 0), 0, 0);
        x.event(0, 0, 0, 9, 1);
        CHECK.due("of 0", x, x.there(0, 0), 0, 0);
        x.event(0, 0, 0, 1, 1);
        CHECK.due("of 1", x, x.there(0, 0), 1, 0);
    }

    private static void thereOfManyValues() {
        CHECK.says("10: THERE of all VALUES together; A SIDE HAS a KEY, if any VALUE of it is THERE");
        OuterRows x = Check.deskOf("desk full keep 9 late 9;back left k a by 9 at 1;put left k b by 2 at 1;put left k c by 3 at 1;back left k d at 1");
        CHECK.due("those below 0 aren't taken off", x, x.there(0, 0), 5, 0);
        CHECK.due("the SIDE has it", x.flips(0, 0), 1);
        x.event(0, 0, 1, -2, 1);
        CHECK.due("one is THERE still", x.flips(0, 0), 1);
        x.event(0, 0, 2, -3, 1);
        CHECK.due("none is THERE", x.flips(0, 0), 2);
    }

    private static void netOfMinusOneIsNoRefusal() {
        CHECK.says("9: NET. Integer.MIN_VALUE: 1");
        OuterRows x = Check.deskOf("desk full keep 9 late 9;back left k v at 1");
        CHECK.due("a NET of -1", x, x.net(0, 0, 0), -1, 0);
        CHECK.due("refused", x, x.net(0, 0, 1), MIN, 1);
    }

    private static void wrongSidesKeysValues() {
        CHECK.says("9, 10, 12: 1 (no DESK, KEY, VALUE, SIDE: 0 left, 1 right)");
        OuterRows x = Check.deskOf("desk full keep 9 late 9;put left a v at 1;put right b v at 1");
        int[] wrong = {-2, -1, 2, 8, Integer.MIN_VALUE, Integer.MAX_VALUE};
        for (int n : wrong) {
            CHECK.due("net(" + n + ", 0, 0)", x, x.net(n, 0, 0), MIN, 1);
            CHECK.due("net(0, " + n + ", 0)", x, x.net(0, n, 0), MIN, 1);
            CHECK.due("net(0, 0, " + n + ")", x, x.net(0, 0, n), MIN, 1);
            CHECK.due("there(" + n + ", 0)", x, x.there(n, 0), -1, 1);
            CHECK.due("there(0, " + n + ")", x, x.there(0, n), -1, 1);
            CHECK.due("debts(" + n + ")", x, x.debts(n), -1, 1);
            CHECK.due("key(" + n + ", 0)", x, x.key(n, 0), -1, 1);
        }
        CHECK.due("the last KEY", x, x.net(1, 1, 0), 1, 0);
        CHECK.due("no second VALUE", x, x.net(1, 1, 1), MIN, 1);
        CHECK.due("the last KEY", x, x.there(1, 1), 1, 0);
        CHECK.due("the last SIDE", x, x.debts(1), 0, 0);
    }

    private static void lateOnTheEdge() {
        CHECK.says("TOO LATE, if TIME is less than CLOCK less LATE");
        OuterRows x = Check.deskOf("desk full keep 99 late 3;put left k v at 10");
        CHECK.due("CLOCK less LATE", x, x.event(0, 0, 0, 1, 7), 1, 0);
        CHECK.due("one less", x, x.event(0, 0, 0, 1, 6), -2, 0);
        x.tick(11);
        CHECK.due("by a CLOCK that went on", x, x.event(0, 0, 0, 1, 7), -2, 0);
        CHECK.due("CLOCK less LATE", x, x.event(0, 0, 0, 1, 8), 1, 0);
        CHECK.due("TOO LATE ones", x.about(8), 2);
    }

    private static void lateOfZero() {
        CHECK.says("LATE, 0: TOO LATE, if TIME is less than CLOCK");
        OuterRows x = Check.deskOf("desk full keep 99 late 0;put left k v at 10");
        CHECK.due("at CLOCK", x, x.event(0, 0, 0, 1, 10), 1, 0);
        CHECK.due("one less", x, x.event(0, 0, 0, 1, 9), -2, 0);
    }

    private static void lateAboveClock() {
        CHECK.says("LATE above CLOCK: nothing is TOO LATE");
        OuterRows x = Check.deskOf("desk full keep 999 late 999;put left k v at 999");
        CHECK.due("TIME 0 at CLOCK 999", x, x.event(0, 0, 0, 1, 0), 1, 0);
        x.tick(1000);
        CHECK.due("TIME 0 at CLOCK 1000", x, x.event(0, 0, 0, 1, 0), -2, 0);
        CHECK.due("TIME 1 at CLOCK 1000", x, x.event(0, 0, 0, 1, 1), 1, 0);
    }

    private static void nothingElseComesOfLateOnes() {
        CHECK.says("TOO LATE .. (nothing else comes of it)");
        OuterRows x = Check.deskOf("desk full keep 99 late 1;put left k v at 10;put right l v at 10;tick 20");
        x.begin(0);
        // by this KEEP both KEYS are due
        x.bounds(1, 0);
        String oneMore = Dump.of(x).replaceFirst("^((?: about \\d+){8}) about 0", "$1 about 1");
        CHECK.due("TOO LATE", x, x.event(0, 0, 0, 5, 19), -2, 0);
        CHECK.due("all but the count as it was", Dump.of(x), oneMore);
        Check.more(x, "put left k v at 0;put right m w at 0");
        CHECK.due("no LAPSE by a TEXT's TOO LATE ones", x.about(9), 0);
        CHECK.due("no living KEY by them", x.about(6), 2);
        CHECK.due("no EVENT in THE STORE", x.size(2), 2);
        CHECK.due("no CHANGE", x.size(1), 2);
    }

    private static void lapseOnTheEdge() {
        CHECK.says("those that live whose latest EVENT's TIME and KEEP are less than CLOCK");
        OuterRows x = Check.deskOf("desk full keep 4 late 9;put left k v at 5;put left l v at 6");
        CHECK.due("TIME and KEEP", x, x.tick(9), 0, 0);
        CHECK.due("it lives", x.key(0, 0), 1);
        CHECK.due("one more", x, x.tick(10), 1, 0);
        CHECK.due("it doesn't", x.key(0, 0), 0);
        CHECK.due("the other one does", x.key(1, 0), 1);
        CHECK.due("of those that live", x, x.tick(10), 0, 0);
        CHECK.due("the other one", x, x.tick(11), 1, 0);
        CHECK.due("none lives", x, x.tick(9999), 0, 0);
    }

    private static void lapseOfKeepBounds() {
        CHECK.says("KEEP, 1 .. 999");
        OuterRows x = Check.deskOf("desk full keep 1 late 0;put left k v at 0");
        CHECK.due("KEEP 1 at 1", x.tick(1), 0);
        CHECK.due("KEEP 1 at 2", x.tick(2), 1);
        x = Check.deskOf("desk full keep 999 late 0;put left k v at 9000");
        CHECK.due("KEEP 999 at 9999", x.tick(9999), 0);
        x = Check.deskOf("desk full keep 999 late 0;put left k v at 8999");
        CHECK.due("KEEP 999 at 9998", x.tick(9998), 0);
        CHECK.due("KEEP 999 at 9999", x.tick(9999), 1);
        x = Check.deskOf("desk full keep 999 late 0;put left k v at 9999");
        CHECK.due("never by ticks", x.tick(9999), 0);
        CHECK.due("the least CLOCK", x.key(0, 2), 10999);
    }

    private static void lapseAtAnEvent() {
        CHECK.says("Else CLOCK is TIME, if it is less, and KEYS LAPSE");
        OuterRows x = Check.deskOf("desk full keep 4 late 9;put left a v at 1;put left b v at 2;put left c v at 5");
        x.event(0, 2, 0, 1, 5);
        CHECK.due("at 5", x.about(9), 0);
        x.event(0, 2, 0, 1, 6);
        CHECK.due("at 6", x.about(9), 1);
        x.event(0, 2, 0, 1, 7);
        CHECK.due("at 7", x.about(9), 2);
        CHECK.due("its own KEY lives", x.key(2, 0), 1);
    }

    private static void lapseOfItsOwnKey() {
        CHECK.says("KEYS LAPSE. Then its NET changes; its KEY lives");
        OuterRows x = Check.deskOf("desk full keep 4 late 9;put left k v by 3 at 1;put right k v by 2 at 1");
        CHECK.due("an EVENT of the KEY that LAPSES by it", x, x.event(0, 0, 0, 5, 6), 1, 0);
        CHECK.due("it lapsed", x.key(0, 3), 1);
        CHECK.due("it lives", x.key(0, 0), 1);
        CHECK.due("NET is its own", x.net(0, 0, 0), 5);
        CHECK.due("the other SIDE's NET", x.net(1, 0, 0), 0);
        CHECK.due("rows", Check.rows(x), "k:v|v*6 k:v|-*5");
    }

    private static void lapseAtAnOlderEvent() {
        CHECK.says("KEYS LAPSE at an EVENT (and a tick) of a TIME that isn't above CLOCK, too");
        OuterRows x = Check.deskOf("desk full keep 2 late 9;tick 9;put left a v at 1");
        CHECK.due("it lives behind its EVENT", x.key(0, 0), 1);
        CHECK.due("a tick of 0", x, x.tick(0), 1, 0);
        x.event(0, 0, 0, 1, 1);
        CHECK.due("it lives again", x.key(0, 0), 1);
        x.event(0, 0, 0, 1, 1);
        CHECK.due("and lapsed by the next EVENT", x.key(0, 3), 2);
        CHECK.due("NET", x.net(0, 0, 0), 1);
    }

    private static void lapsedNets() {
        CHECK.says("LAPSED: NETS of the KEY are 0 on both SIDES");
        OuterRows x = Check.deskOf("desk full keep 4 late 9;put left k v by 3 at 1;back left k w by 3 at 1;back right k v by 2 at 1;put right k w at 1;put left l v at 2");
        x.tick(6);
        for (int side = 0; side < 2; side++) {
            for (int value = 0; value < 2; value++) {
                CHECK.due("net(" + side + ", 0, " + value + ")", x.net(side, 0, value), 0);
            }
            CHECK.due("debts(" + side + ")", x.debts(side), 0);
        }
        CHECK.due("another KEY's", x.net(0, 1, 0), 1);
    }

    private static void latestOfOneThatLives() {
        CHECK.says("its latest TIME is that TIME, if it is less");
        OuterRows x = Check.deskOf("desk full keep 9 late 9;put left k v at 5");
        x.event(0, 0, 0, 1, 4);
        CHECK.due("an older EVENT", x.key(0, 1), 5);
        x.event(1, 0, 0, -1, 5);
        CHECK.due("one of the same TIME", x.key(0, 1), 5);
        x.event(1, 0, 0, -1, 6);
        CHECK.due("a later one, taken back", x.key(0, 1), 6);
    }

    private static void latestOfOneThatLapsed() {
        CHECK.says("of one that didn't live: it is");
        OuterRows x = Check.deskOf("desk full keep 1 late 99;put left k v at 50;tick 52");
        CHECK.due("lapsed", x, x.key(0, 1), -2, 0);
        x.event(0, 0, 0, 1, 0);
        CHECK.due("TIME 0", x, x.key(0, 1), 0, 0);
        CHECK.due("it lives", x, x.key(0, 0), 1, 0);
        CHECK.due("by a debt, too", Check.deskOf("desk full keep 9 late 9;back left k v at 0").key(0, 0), 1);
    }

    private static void keyWhats() {
        CHECK.says("11: NONE: 1 (what, too)");
        OuterRows x = Check.deskOf("desk full keep 9 late 9;put left k v at 5");
        int[] due = {1, 5, 15, 0, 1};
        for (int what = 0; what < 5; what++) {
            CHECK.due("key(0, " + what + ")", x, x.key(0, what), due[what], 0);
        }
        int[] wrong = {-1, 5, Integer.MIN_VALUE, Integer.MAX_VALUE};
        for (int what : wrong) {
            CHECK.due("key(0, " + what + ")", x, x.key(0, what), -1, 1);
        }
        x = Check.deskOf("desk full keep 9 late 0;tick 5;put left k v at 4");
        int[] dead = {0, -2, -2, 0, 0};
        for (int what = 0; what < 5; what++) {
            CHECK.due("key(0, " + what + ") of one that never lived", x, x.key(0, what), dead[what], 0);
        }
    }

    private static void leastClockOfLapse() {
        CHECK.says("11: the least CLOCK at which it LAPSES, nothing else coming (-2)");
        OuterRows x = Check.deskOf("desk full keep 4 late 9;put left k v at 0");
        int least = x.key(0, 2);
        CHECK.due("key(0, 2)", least, 5);
        CHECK.due("one less", x.tick(least - 1), 0);
        CHECK.due("it", x.tick(least), 1);
        CHECK.due("lapsed", x, x.key(0, 2), -2, 0);
    }

    private static void lapsesOfAKey() {
        CHECK.says("11: how often it LAPSED");
        OuterRows x = Check.deskOf("desk full keep 1 late 9;put left k v at 0;put left l v at 0");
        for (int i = 1; i <= 3; i++) {
            x.tick(10 * i);
            CHECK.due("key(0, 3)", x.key(0, 3), i);
            CHECK.due("key(1, 3)", x.key(1, 3), 1);
            x.event(0, 0, 0, 1, 10 * i);
        }
        CHECK.due("of all", x.about(9), 4);
    }

    private static void changesOfAKey() {
        CHECK.says("11: CHANGES that it sent (by exchanges, too; none by LAPSES)");
        OuterRows x = Check.deskOf("desk full keep 4 late 9;put left k v at 0;put left l v at 0");
        x.how(0);
        CHECK.due("key(0, 4)", x.key(0, 4), 2);
        x.tick(9);
        CHECK.due("key(0, 4) lapsed", x.key(0, 4), 2);
        CHECK.due("key(1, 4)", x.key(1, 4), 2);
    }

    private static void debtsOfNone() {
        CHECK.says("12: How many VALUES have a NET below 0");
        OuterRows x = Check.deskOf("desk full keep 4 late 9");
        CHECK.due("no KEY", x, x.debts(0), 0, 0);
        CHECK.due("no KEY", x, x.debts(1), 0, 0);
        Check.more(x, "back left k v at 1");
        CHECK.due("-1", x, x.debts(0), 1, 0);
        CHECK.due("the other SIDE", x, x.debts(1), 0, 0);
        x.event(0, 0, 0, 1, 1);
        CHECK.due("0", x, x.debts(0), 0, 0);
    }

    private static void debtsOfAll() {
        CHECK.says("12: all that there is room for");
        OuterRows x = Full.ofNames();
        for (int i = 0; i < 64; i++) {
            x.event(1, i / 8, i % 8, -9, 0);
            CHECK.due("debts(1)", x.debts(1), i + 1);
        }
        CHECK.due("debts(0)", x.debts(0), 0);
    }
}
