import java.util.ArrayList;
import java.util.List;

/** Terms III: each refused call with its answer and its TROUBLE, and with all else as it was. */
public final class RefusalTest {
    private static final Check CHECK = new Check("RefusalTest");
    private static final int MIN = Check.MIN;
    private static final int MAX = Integer.MAX_VALUE;

    private interface Call {
        long on(OuterRows x);
    }

    private record Refusal(String name, Call call, long answer, int trouble) {
    }

    private interface Start {
        OuterRows make();
    }

    private final List<Refusal> refusals = new ArrayList<>();

    public static void main(String[] args) {
        noDesk();
        noKeys();
        fullOfAll();
        CHECK.end();
    }

    private void add(String name, Call call, long answer, int trouble) {
        refusals.add(new Refusal(name, call, answer, trouble));
    }

    /** Two objects of the same calls, one of them refused beside: what they answer from then on is the same. */
    private void dueOf(Start start) {
        for (Refusal refusal : refusals) {
            OuterRows x = start.make();
            OuterRows twin = start.make();
            CHECK.due(refusal.name, x, refusal.call.on(x), refusal.answer, refusal.trouble);
            CHECK.due("where() behind " + refusal.name, x.where(), OuterRows.NONE);
            CHECK.due("all behind " + refusal.name, all(x), all(twin));
        }
    }

    /** All that can be asked, then what is on THE TAPE, then what is kept: the object is used up by it. */
    private static String all(OuterRows x) {
        StringBuilder all = new StringBuilder();
        all.append("fault ").append(x.fault()).append(" tape ").append(x.size(0)).append(Dump.of(x));
        all.append("\nmore ").append(x.more(x.size(0))).append(" fault ").append(x.fault()).append(" at ").append(x.where()).append(Dump.of(x));
        all.append("\nback ").append(x.back()).append(Dump.of(x));
        return all.toString();
    }

    private static void noDesk() {
        CHECK.says("1 there is none such (no DESK)");
        RefusalTest test = new RefusalTest();
        test.addAllByOne("0", 0);
        test.addAllByOne("-1", -1);
        test.addAllByOne("1", 1);
        test.addAllByOne("MAX", MAX);
        test.dueOf(() -> {
            OuterRows x = new OuterRows();
            Check.desk(x, "tick 1");
            Check.feed(x, "tick 1; put left k");
            return x;
        });
    }

    private void addAllByOne(String of, int n) {
        add("more " + of, x -> x.more(n), -1, 1);
        add("about " + of, x -> x.about(n), -1, 1);
        add("letter " + of, x -> x.letter(n, n, n), -1, 1);
        add("net " + of, x -> x.net(n, n, n), MIN, 1);
        add("there " + of, x -> x.there(n, n), -1, 1);
        add("key " + of, x -> x.key(n, n), -1, 1);
        add("debts " + of, x -> x.debts(n), -1, 1);
        add("sent " + of, x -> x.sent(n, n, n), MIN, 1);
        add("join " + of, x -> x.join(n, n, n), -1, 1);
        add("closed " + of, x -> x.closed(n, n, n), MIN, 1);
        add("rows", x -> x.rows(), -1, 1);
        add("row " + of, x -> x.row(n, n), MIN, 1);
        add("spell " + of, x -> x.spell(n, n), -1, 1);
        add("traffic " + of, x -> x.traffic(n), -1, 1);
        add("log " + of, x -> x.log(n, n), MIN, 1);
        add("flips " + of, x -> x.flips(n, n), -1, 1);
        add("busiest", x -> x.busiest(), -1, 1);
        add("dearest", x -> x.dearest(), -1, 1);
        add("begin " + of, x -> x.begin(n), -1, 1);
        add("pull " + of, x -> x.pull(n), -1, 1);
        add("pulled " + of, x -> x.pulled(n, n, n), MIN, 1);
        add("held " + of, x -> x.held(n, n, n, n), MIN, 1);
        add("lag " + of, x -> x.lag(n, n), -1, 1);
        add("would " + of, x -> x.would(n, n, n, n, n), -1, 1);
        add("nextLapse", x -> x.nextLapse(), -1, 1);
        add("replay " + of, x -> x.replay(n, n), MIN, 1);
        add("cost " + of, x -> x.cost(n), -1, 1);
        add("event " + of, x -> x.event(n, n, n, n, n), -1, 1);
        add("tick " + of, x -> x.tick(n), -1, 1);
        add("how " + of, x -> x.how(n), -1, 1);
        add("bounds " + of, x -> x.bounds(n, n) ? 1 : 0, 0, 1);
        add("keep", x -> x.keep() ? 1 : 0, 0, 1);
        add("back", x -> x.back() ? 1 : 0, 0, 1);
    }

    private static void noKeys() {
        CHECK.says("1 there is none such (no KEY, VALUE; nothing begun, nothing sent, nothing kept)");
        RefusalTest test = new RefusalTest();
        test.add("letter of a KEY", x -> x.letter(0, 0, 0), -1, 1);
        test.add("letter of a VALUE", x -> x.letter(1, 0, 0), -1, 1);
        test.add("net", x -> x.net(0, 0, 0), MIN, 1);
        test.add("there", x -> x.there(0, 0), -1, 1);
        test.add("key", x -> x.key(0, 0), -1, 1);
        test.add("sent", x -> x.sent(0, 0, 0), MIN, 1);
        test.add("sent of none", x -> x.sent(0, 0, -1), MIN, 1);
        test.add("join", x -> x.join(0, -1, 0), -1, 1);
        test.add("closed", x -> x.closed(0, 0, 0), MIN, 1);
        test.add("row", x -> x.row(0, 0), MIN, 1);
        test.add("spell", x -> x.spell(0, 0), -1, 1);
        test.add("log", x -> x.log(0, 0), MIN, 1);
        test.add("flips", x -> x.flips(0, 0), -1, 1);
        test.add("pull", x -> x.pull(0), -1, 1);
        test.add("pulled", x -> x.pulled(0, 0, 0), MIN, 1);
        test.add("held", x -> x.held(0, 0, 0, 0), MIN, 1);
        test.add("lag", x -> x.lag(0, 0), -1, 1);
        test.add("would", x -> x.would(0, 0, 0, 1, 0), -1, 1);
        test.add("event", x -> x.event(0, 0, 0, 1, 0), -1, 1);
        test.add("back", x -> x.back() ? 1 : 0, 0, 1);
        test.dueOf(() -> Check.deskOf(Lines.DESK));
    }

    /** A DESK with something of all: two KEYS and VALUES, one LAPSED, SUBSCRIBERS 1 and 2, a DESK kept, a TAPE, a FAULT. */
    private static OuterRows rich() {
        OuterRows x = Check.deskOf("desk full keep 4 late 2;put left k v by 2 at 1;tick 6;put left l w by 3 at 6;put right l w by 2 at 6;put left k v at 1");
        x.begin(1);
        x.event(0, 1, 0, 1, 7);
        x.pull(1);
        x.keep();
        x.event(1, 0, 1, 1, 8);
        x.begin(2);
        x.event(1, 0, 0, -1, 8);
        x.event(1, 1, 1, 1, 8);
        Check.more(x, "tick 9;put left m");
        Check.feed(x, "tick 9;put left m u at 9");
        return x;
    }

    private static void fullOfAll() {
        CHECK.says("Refusals are met in the order in which a call tells them; all else is as it was");
        RefusalTest test = new RefusalTest();
        test.addTexts();
        test.addThere();
        test.addRows();
        test.addSubscribers();
        test.addEvents();
        test.addOthers();
        test.dueOf(RefusalTest::rich);
    }

    private void addTexts() {
        int[] wrong = {-1, 41, 900, 901, MIN, MAX};
        for (int n : wrong) {
            add("desk(" + n + ")", x -> x.desk(n), -1, 2);
            add("more(" + n + ")", x -> x.more(n), -1, 2);
        }
        int[] whats = {-1, 10, MIN, MAX};
        for (int what : whats) {
            add("about(" + what + ")", x -> x.about(what), -1, 1);
        }
        int[][] letters = {{-1, 0, 0}, {2, 0, 0}, {0, -1, 0}, {0, 2, 0}, {1, 2, 0}, {0, 8, 0}, {0, 0, -1}, {1, 1, MIN}};
        for (int[] w : letters) {
            add("letter(" + w[0] + ", " + w[1] + ", " + w[2] + ")", x -> x.letter(w[0], w[1], w[2]), -1, 1);
        }
    }

    private void addThere() {
        int[] wrong = {-1, 2, 8, MIN, MAX};
        for (int n : wrong) {
            add("net(" + n + ", 0, 0)", x -> x.net(n, 0, 0), MIN, 1);
            add("net(0, " + n + ", 0)", x -> x.net(0, n, 0), MIN, 1);
            add("net(0, 0, " + n + ")", x -> x.net(0, 0, n), MIN, 1);
            add("there(" + n + ", 0)", x -> x.there(n, 0), -1, 1);
            add("there(0, " + n + ")", x -> x.there(0, n), -1, 1);
            add("key(" + n + ", 0)", x -> x.key(n, 0), -1, 1);
            add("debts(" + n + ")", x -> x.debts(n), -1, 1);
            add("flips(" + n + ", 0)", x -> x.flips(n, 0), -1, 1);
            add("flips(0, " + n + ")", x -> x.flips(0, n), -1, 1);
        }
        int[] whats = {-1, 5, MIN, MAX};
        for (int what : whats) {
            add("key(0, " + what + ")", x -> x.key(0, what), -1, 1);
        }
    }

    private void addRows() {
        int[][] rows = {{0, -1, -1}, {-1, 0, 0}, {2, 0, 0}, {0, 2, 0}, {0, 0, 2}, {0, -2, 0}, {0, 0, -2}, {0, 8, 8}, {MAX, MAX, MAX}};
        for (int[] r : rows) {
            String of = "(" + r[0] + ", " + r[1] + ", " + r[2] + ")";
            add("sent" + of, x -> x.sent(r[0], r[1], r[2]), MIN, 1);
            add("join" + of, x -> x.join(r[0], r[1], r[2]), -1, 1);
            add("closed" + of, x -> x.closed(r[0], r[1], r[2]), MIN, 1);
            add("held" + of, x -> x.held(1, r[0], r[1], r[2]), MIN, 1);
        }
        int[] wrong = {-1, 99, MIN, MAX};
        for (int n : wrong) {
            add("row(" + n + ", 0)", x -> x.row(n, 0), MIN, 1);
            add("row(0, " + n + ")", x -> x.row(0, n), MIN, 1);
            add("spell(" + n + ", 0)", x -> x.spell(n, 0), -1, 1);
            add("traffic(" + n + ")", x -> x.traffic(n), -1, 1);
            add("log(" + n + ", 0)", x -> x.log(n, 0), MIN, 1);
            add("log(0, " + n + ")", x -> x.log(0, n), MIN, 1);
        }
        add("row(0, 4)", x -> x.row(0, 4), MIN, 1);
        add("spell(0, -1)", x -> x.spell(0, -1), -1, 1);
        add("traffic(4)", x -> x.traffic(4), -1, 1);
        add("log(0, 5)", x -> x.log(0, 5), MIN, 1);
    }

    private void addSubscribers() {
        int[] whos = {-1, 0, 3, 4, MIN, MAX};
        for (int who : whos) {
            if (who != 0 && who != 3) {
                add("begin(" + who + ")", x -> x.begin(who), -1, 1);
            }
            add("pull(" + who + ")", x -> x.pull(who), -1, 1);
            add("pulled(" + who + ", 0, 0)", x -> x.pulled(who, 0, 0), MIN, 1);
            add("held(" + who + ", 0, 0, 0)", x -> x.held(who, 0, 0, 0), MIN, 1);
            add("lag(" + who + ", 0)", x -> x.lag(who, 0), -1, 1);
        }
        int[] wrong = {-1, 4, MIN, MAX};
        for (int n : wrong) {
            add("pulled(1, " + n + ", 0)", x -> x.pulled(1, n, 0), MIN, 1);
            add("pulled(1, 0, " + n + ")", x -> x.pulled(1, 0, n), MIN, 1);
            add("lag(1, " + n + ")", x -> x.lag(1, n), -1, 1);
        }
        add("pulled(2, 0, 0), no PULL", x -> x.pulled(2, 0, 0), MIN, 1);
    }

    private void addEvent(int[] e, int trouble) {
        String of = "(" + e[0] + ", " + e[1] + ", " + e[2] + ", " + e[3] + ", " + e[4] + ")";
        add("would" + of, x -> x.would(e[0], e[1], e[2], e[3], e[4]), -1, trouble);
        add("event" + of, x -> x.event(e[0], e[1], e[2], e[3], e[4]), -1, trouble);
    }

    private void addEvents() {
        int[][] unknown = {{-1, 0, 0}, {2, 0, 0}, {0, -1, 0}, {0, 2, 0}, {0, 0, -1}, {0, 0, 2}, {MIN, MAX, 8}};
        for (int[] u : unknown) {
            addEvent(new int[] {u[0], u[1], u[2], 1, 9}, 1);
            addEvent(new int[] {u[0], u[1], u[2], 0, 9}, 1);
            addEvent(new int[] {u[0], u[1], u[2], 1, 10000}, 1);
            addEvent(new int[] {u[0], u[1], u[2], 1, 0}, 1);
        }
        int[][] numbers = {{0, 9}, {10, 9}, {-10, 9}, {1, -1}, {1, 10000}, {MIN, 9}, {1, MAX}, {0, 0}, {10, 0}, {0, -1}};
        for (int[] n : numbers) {
            addEvent(new int[] {0, 0, 0, n[0], n[1]}, 2);
            addEvent(new int[] {1, 1, 1, n[0], n[1]}, 2);
        }
    }

    private void addOthers() {
        int[] seeds = {-1, 65537, MIN, MAX};
        for (int seed : seeds) {
            add("replay(" + seed + ", 0)", x -> x.replay(seed, 0), MIN, 2);
            add("replay(" + seed + ", 3)", x -> x.replay(seed, 3), MIN, 1);
        }
        add("replay(0, -1)", x -> x.replay(0, -1), MIN, 1);
        int[] hows = {-1, 4, MIN, MAX};
        for (int how : hows) {
            add("cost(" + how + ")", x -> x.cost(how), -1, 2);
            add("how(" + how + ")", x -> x.how(how), -1, 2);
        }
        int[] times = {-1, 10000, MIN, MAX};
        for (int time : times) {
            add("tick(" + time + ")", x -> x.tick(time), -1, 2);
        }
        int[][] bounds = {{0, 5}, {1000, 5}, {-1, 5}, {5, -1}, {5, 1000}, {0, -1}, {MIN, MAX}, {MAX, MIN}};
        for (int[] b : bounds) {
            add("bounds(" + b[0] + ", " + b[1] + ")", x -> x.bounds(b[0], b[1]) ? 1 : 0, 0, 2);
        }
    }
}
