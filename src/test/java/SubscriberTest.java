/** Promises 24 to 28: begin, pull, pulled, held, lag. */
public final class SubscriberTest {
    private static final Check CHECK = new Check("SubscriberTest");
    private static final int MIN = Check.MIN;

    public static void main(String[] args) {
        begins();
        pulls();
        holds();
        lags();
        beginsAnew();
        refusals();
        CHECK.end();
    }

    private static OuterRows desk() {
        return Check.deskOf("desk full keep 99 late 9;put left a v by 2 at 1;put right b w at 1");
    }

    private static void begins() {
        OuterRows x = Check.deskOf("desk full keep 99 late 9");
        CHECK.due("begin(0) of no rows", x, x.begin(0), 0, 0);
        CHECK.due("who has begun", x.size(4), 1);
        x = desk();
        CHECK.due("begin(3)", x, x.begin(3), 2, 0);
        CHECK.due("begin(4)", x, x.begin(4), -1, 1);
        CHECK.due("begin(-1)", x, x.begin(-1), -1, 1);
        CHECK.due("who has begun", x.size(4), 1);
        CHECK.due("begin(0) without a desk", new OuterRows().begin(0), -1);
    }

    private static void pulls() {
        OuterRows x = desk();
        x.begin(0);
        x.event(1, 0, 0, 3, 2);
        x.begin(1);
        x.event(0, 1, 1, 1, 3);
        x.event(0, 1, 1, -1, 3);
        CHECK.due("pull(0)", x, x.pull(0), 2, 0);
        CHECK.due("differences", Check.differences(x, 0), "0,0,0,6 0,0,-2,-2");
        CHECK.due("pull(1): there and back", x, x.pull(1), 0, 0);
        CHECK.due("differences", Check.differences(x, 1), "");
        CHECK.due("they stay until the next one", x.event(1, 1, 0, 2, 4), 1);
        CHECK.due("differences", Check.differences(x, 0), "0,0,0,6 0,0,-2,-2");
        CHECK.due("pull(0) again", x.pull(0), 1);
        CHECK.due("differences", Check.differences(x, 0), "1,-2,0,2");
        CHECK.due("pull(0) of nothing", x.pull(0), 0);
        CHECK.due("differences", Check.differences(x, 0), "");
        CHECK.due("lapses aren't told", x.tick(999), 2);
        CHECK.due("pull(0) of nothing", x.pull(0), 0);
    }

    private static void holds() {
        OuterRows x = desk();
        x.begin(2);
        x.event(1, 0, 0, 3, 2);
        CHECK.due("held(2, 0, 0, -1)", x, x.held(2, 0, 0, -1), 2, 0);
        CHECK.due("held(2, 0, 0, 0)", x, x.held(2, 0, 0, 0), 0, 0);
        CHECK.due("held(2, 1, -1, 1)", x, x.held(2, 1, -1, 1), 1, 0);
        x.pull(2);
        CHECK.due("held(2, 0, 0, -1) pulled", x.held(2, 0, 0, -1), 0);
        CHECK.due("held(2, 0, 0, 0) pulled", x.held(2, 0, 0, 0), 6);
        Check.more(x, "put left c u at 5");
        CHECK.due("a new KEY is held as 0", x, x.held(2, 2, 2, -1), 0, 0);
    }

    private static void lags() {
        OuterRows x = desk();
        x.begin(0);
        int[] due = {0, 1, 0, 0};
        for (int what = 0; what < 4; what++) {
            CHECK.due("lag(0, " + what + ") at first", x, x.lag(0, what), due[what], 0);
        }
        for (int i = 0; i < 30; i++) {
            x.event(1, 0, 0, 1, 2);
            x.event(1, 0, 0, -1, 2);
        }
        // two CHANGES each: the outer row goes and comes
        due = new int[] {120, 0, 0, 0};
        for (int what = 0; what < 4; what++) {
            CHECK.due("lag(0, " + what + ") far behind", x.lag(0, what), due[what]);
        }
        x.pull(0);
        CHECK.due("lag(0, 0) pulled", x.lag(0, 0), 0);
        CHECK.due("lag(0, 1) pulled", x.lag(0, 1), 1);
        for (int i = 0; i < 60; i++) {
            x.event(0, 0, 0, 1, 2);
        }
        CHECK.due("lag(0, 0) of sixty", x.lag(0, 0), 60);
        CHECK.due("lag(0, 1) of sixty", x.lag(0, 1), 1);
        CHECK.due("lag(0, 2) of one row", x.lag(0, 2), 1);
        x.event(0, 0, 0, 1, 2);
        CHECK.due("lag(0, 1) of 61", x.lag(0, 1), 0);
        CHECK.due("lag(0, 3) of a pull of nothing", x.lag(0, 3), 0);
        x.pull(0);
        CHECK.due("lag(0, 3)", x.lag(0, 3), 1);
        CHECK.due("lag(0, 2)", x.lag(0, 2), 0);
        x.event(1, 1, 1, 1, 2);
        CHECK.due("lag(0, 3) stays", x.lag(0, 3), 1);
    }

    private static void beginsAnew() {
        OuterRows x = desk();
        x.begin(0);
        x.event(1, 0, 0, 3, 2);
        x.pull(0);
        x.event(0, 0, 1, 1, 2);
        CHECK.due("begin(0) anew", x.begin(0), 3);
        CHECK.due("who has begun", x.size(4), 1);
        int[] due = {0, 1, 0, 0};
        for (int what = 0; what < 4; what++) {
            CHECK.due("lag(0, " + what + ") anew", x.lag(0, what), due[what]);
        }
        CHECK.due("no pull yet", x, x.pulled(0, 0, 0), MIN, 1);
        CHECK.due("held anew", x.held(0, 0, 1, 0), 3);
    }

    private static void refusals() {
        OuterRows x = desk();
        int[] whos = {-1, 0, 3, 4, Integer.MAX_VALUE, Integer.MIN_VALUE};
        for (int who : whos) {
            CHECK.due("pull(" + who + ")", x, x.pull(who), -1, 1);
            CHECK.due("pulled(" + who + ", 0, 0)", x, x.pulled(who, 0, 0), MIN, 1);
            CHECK.due("held(" + who + ", 0, 0, 0)", x, x.held(who, 0, 0, 0), MIN, 1);
            CHECK.due("lag(" + who + ", 0)", x, x.lag(who, 0), -1, 1);
        }
        x.begin(1);
        x.event(1, 0, 0, 3, 2);
        x.pull(1);
        CHECK.due("pulled(1, 1, 3)", x, x.pulled(1, 1, 3), -2, 0);
        CHECK.due("pulled(1, 2, 0)", x, x.pulled(1, 2, 0), MIN, 1);
        CHECK.due("pulled(1, -1, 0)", x, x.pulled(1, -1, 0), MIN, 1);
        CHECK.due("pulled(1, 0, 4)", x, x.pulled(1, 0, 4), MIN, 1);
        CHECK.due("pulled(1, 0, -1)", x, x.pulled(1, 0, -1), MIN, 1);
        CHECK.due("lag(1, 4)", x, x.lag(1, 4), -1, 1);
        CHECK.due("lag(1, -1)", x, x.lag(1, -1), -1, 1);
        CHECK.due("held(1, 2, 0, 0)", x, x.held(1, 2, 0, 0), MIN, 1);
        CHECK.due("held(1, 0, -1, -1)", x, x.held(1, 0, -1, -1), MIN, 1);
        CHECK.due("held(1, 0, 2, 0)", x, x.held(1, 0, 2, 0), MIN, 1);
        CHECK.due("held(1, 0, 0, -2)", x, x.held(1, 0, 0, -2), MIN, 1);
    }
}
