import java.util.NoSuchElementException;

/** Promises 39 to 41 at their bounds, and the 512 calls that an object is used for. */
public final class EdgeToldTest {
    private static final Check CHECK = new Check("EdgeToldTest");
    private static final int MIN = Check.MIN;

    public static void main(String[] args) {
        singleOfNone();
        singleOfOneSide();
        singleThatLives();
        singleOfAll();
        singleNumbers();
        sizeOfNothing();
        sizeOfAll();
        sizeNumbers();
        troubleAtFirst();
        troubleOfTheLatestCall();
        callsThatMayNotBeRefused();
        zeroBehindEachCall();
        fiveHundredAndTwelveCalls();
        CHECK.end();
    }

    private static void singleOfNone() {
        CHECK.says("39: NoSuchElementException if there is none such");
        CHECK.dueNoSingle(new OuterRows(), 0);
        CHECK.dueNoSingle(Check.deskOf(Lines.DESK), 0);
        CHECK.dueNoSingle(Check.deskOf(Lines.DESK + ";put left k v at 1;put right k v at 1"), 0);
        CHECK.dueNoSingle(Check.deskOf(Lines.DESK + ";back left k v at 1"), 0);
    }

    private static void singleOfOneSide() {
        CHECK.says("39: that just one SIDE has");
        OuterRows x = Check.deskOf(Lines.DESK + ";put left k v at 1;back right k v at 1");
        CHECK.due("a debt on the other SIDE", x.single(0), 0);
        x.event(1, 0, 0, 1, 1);
        CHECK.due("a NET of 0 on the other SIDE", x.single(0), 0);
        x.event(1, 0, 0, 1, 1);
        CHECK.dueNoSingle(x, 0);
        x.event(0, 0, 0, -1, 1);
        CHECK.due("the other SIDE alone", x.single(0), 0);
        x.event(1, 0, 0, -1, 1);
        CHECK.dueNoSingle(x, 0);
    }

    private static void singleThatLives() {
        CHECK.says("39: KEY, by numbers, that lives");
        OuterRows x = Check.deskOf("desk full keep 2 late 9;put left a v at 1;put right b v at 2;put left c v at 2");
        x.tick(3);
        CHECK.due("all three", Check.singles(x), "012");
        x.tick(4);
        CHECK.due("one lapsed", Check.singles(x), "12");
        x.event(1, 0, 0, 1, 4);
        CHECK.due("it lives again", Check.singles(x), "012");
        x.tick(5);
        CHECK.due("it alone", Check.singles(x), "0");
        CHECK.dueNoSingle(x, 1);
    }

    private static void singleOfAll() {
        CHECK.says("39: all eight KEYS");
        OuterRows x = Full.ofNames();
        for (int k = 0; k < 8; k++) {
            CHECK.dueNoSingle(x, k);
            x.event(k % 2, k, 0, 1, 1);
            CHECK.due("single(" + k + ")", x.single(k), k);
        }
        CHECK.dueNoSingle(x, 8);
    }

    private static void singleNumbers() {
        CHECK.says("39: the i-th");
        OuterRows x = Check.deskOf(Lines.DESK + ";put left k v at 1");
        CHECK.due("single(0)", x.single(0), 0);
        int[] wrong = {-1, 1, 8, MIN, Integer.MAX_VALUE};
        for (int i : wrong) {
            CHECK.dueNoSingle(x, i);
        }
    }

    private static void sizeOfNothing() {
        CHECK.says("40: 0 for what there isn't");
        OuterRows none = new OuterRows();
        OuterRows x = Check.deskOf(Lines.DESK);
        for (int what = 0; what < 5; what++) {
            CHECK.due("size(" + what + ") without a DESK", none.size(what), 0);
            CHECK.due("size(" + what + ") of an empty one", x.size(what), 0);
        }
    }

    private static void sizeOfAll() {
        CHECK.says("40: all that there is room for");
        OuterRows x = Full.ofRows();
        for (int i = 0; i < 46; i++) {
            x.feed(0, 0, 0, 0, 0);
        }
        for (int who = 0; who < 5; who++) {
            x.begin(who);
        }
        x.keep();
        x.keep();
        int[] due = {900, 60, 60, 1, 4};
        for (int what = 0; what < 5; what++) {
            CHECK.due("size(" + what + ")", x.size(what), due[what]);
        }
    }

    private static void sizeNumbers() {
        CHECK.says("40: NONE for others");
        OuterRows none = new OuterRows();
        OuterRows x = Check.deskOf(Lines.DESK);
        int[] wrong = {-1, 5, 6, MIN, Integer.MAX_VALUE};
        for (int what : wrong) {
            CHECK.due("size(" + what + ")", x.size(what), -1);
            CHECK.due("size(" + what + ") without a DESK", none.size(what), -1);
        }
        CHECK.due("size() is never refused by a number", none.trouble(), 0);
    }

    private static void troubleAtFirst() {
        CHECK.says("41: TROUBLE: 0 it wasn't");
        CHECK.due("at first", new OuterRows().trouble(), 0);
    }

    private static void troubleOfTheLatestCall() {
        CHECK.says("TROUBLE of the latest call that may be refused: 0 it wasn't; 1 none such; 2 a number; 4 a FAULT");
        OuterRows x = new OuterRows();
        x.rows();
        CHECK.due("1", x.trouble(), 1);
        x.desk(1);
        CHECK.due("2", x.trouble(), 2);
        x.desk(0);
        CHECK.due("4", x.trouble(), 4);
        CHECK.due("asked again", x.trouble(), 4);
        Check.desk(x, Lines.DESK);
        CHECK.due("0", x.trouble(), 0);
        x.tick(-1);
        CHECK.due("2", x.trouble(), 2);
        x.busiest();
        CHECK.due("an answer of -2 is no refusal", x.trouble(), 0);
    }

    private static void callsThatMayNotBeRefused() {
        CHECK.says("the latest call that may be refused (those of which a number is told here)");
        OuterRows x = Check.deskOf(Lines.DESK + ";put left k v at 1");
        for (int i = 0; i < 45; i++) {
            x.feed(0x20202020, 0, 0, 0, 0);
        }
        int[] troubles = {1, 2, 4, 0};
        for (int trouble : troubles) {
            switch (trouble) {
                case 1 -> x.about(-1);
                case 2 -> x.desk(-1);
                case 4 -> x.more(900);
                default -> x.about(0);
            }
            x.feed(0, 0, 0, 0, 0);
            x.fault();
            x.where();
            x.size(0);
            x.size(-1);
            x.single(0);
            CHECK.dueNoSingle(x, 9);
            x.trouble();
            CHECK.due("trouble()", x.trouble(), trouble);
            CHECK.due("where()", x.where(), trouble == 4 ? 4 : -1);
        }
    }

    private static void zeroBehindEachCall() {
        CHECK.says("41: 0 it wasn't, of each call that may be refused");
        for (int call = 0; call < Calls.COUNT; call++) {
            OuterRows x = Check.deskOf(Lines.DESK + ";put left k v at 1");
            x.begin(0);
            x.event(0, 0, 0, 1, 1);
            x.pull(0);
            x.keep();
            x.about(-1);
            CHECK.due("refused", x.trouble(), 1);
            Calls.sound(x, call);
            CHECK.due("trouble() behind sound call " + Calls.NAMES[call], x.trouble(), 0);
        }
    }

    private static void fiveHundredAndTwelveCalls() {
        CHECK.says("An object is used for at most 512 calls after it has been made");
        OuterRows x = new OuterRows();
        Check.feed(x, "desk left keep 999 late 999;put left k v by 9 at 1");
        x.desk(60);
        int calls = 4;
        for (int i = 0; calls < 500; i++) {
            CHECK.due("event " + i, x.event(0, 0, 0, 9, 1), 1);
            calls++;
        }
        CHECK.due("NET", x.net(0, 0, 0), 9 * 497);
        CHECK.due("SENT", x.sent(0, 0, -1), 9 * 497);
        CHECK.due("numbers", x.about(7), 497);
        CHECK.due("came", x.traffic(0), 9 * 497);
        CHECK.due("the oldest of THE LOG", x.log(59, 4), 438);
        CHECK.due("THE STORE", x.size(2), 60);
        CHECK.due("keep()", x.keep(), true);
        CHECK.due("begin(3)", x.begin(3), 1);
        CHECK.due("event 511", x.event(0, 0, 0, -9, 1), 1);
        CHECK.due("BEHIND", x.lag(3, 0), 1);
        CHECK.due("back()", x.back(), true);
        try {
            CHECK.due("call 512", x.single(0), 0);
        } catch (NoSuchElementException e) {
            CHECK.due("call 512 throws", 1, 0);
        }
    }
}
