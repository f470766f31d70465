import java.util.NoSuchElementException;
import java.util.Random;

/** Whatever is asked, nothing but single() throws, and questions change nothing but TROUBLE. */
public final class SturdyTest {
    private static final Check CHECK = new Check("SturdyTest");
    private static final int[] EDGES = {Integer.MIN_VALUE, Integer.MIN_VALUE + 1, -10001, -1000, -10, -9, -3, -2, -1, 0, 1, 2, 3, 4, 5, 7, 8, 9,
        10, 20, 59, 60, 61, 80, 81, 647, 648, 899, 900, 901, 998, 999, 1000, 9998, 9999, 10000, 65535, 65536, 65537,
        Integer.MAX_VALUE - 1, Integer.MAX_VALUE};
    private static final String[] TEXTS = {"desk full keep 9 late 9;put left a v by 9 at 1;put right a w by 9 at 2", "desk inner keep 999 late 999",
        "put left b v by 3 at 5;tick 9", "back right c u by 9 at 10;put left c u at 12", "", ";", "tick 9999", "desk right keep 1 late 0;tick 9999"};

    public static void main(String[] args) {
        for (int seed = 0; seed < 300; seed++) {
            wildRun(new Random(seed));
        }
        CHECK.end();
    }

    private static void wildRun(Random random) {
        OuterRows x = new OuterRows();
        for (int i = 0; i < 512; i++) {
            int call = random.nextInt(42);
            int[] a = new int[5];
            for (int j = 0; j < 5; j++) {
                a[j] = random.nextInt(3) > 0 ? random.nextInt(4) : EDGES[random.nextInt(EDGES.length)];
            }
            String at = "call " + call + " of " + a[0] + ", " + a[1] + ", " + a[2] + ", " + a[3] + ", " + a[4];
            boolean asks = isQuestion(call) && i % 16 == 0;
            String before = asks ? Dump.of(x) : "";
            try {
                call(x, call, a, random);
            } catch (NoSuchElementException e) {
                CHECK.due(at + " throws only as single()", call, 38);
            } catch (RuntimeException e) {
                CHECK.due(at + " throws " + e, 1, 0);
            }
            int trouble = x.trouble();
            CHECK.due(at + ": trouble is 0, 1, 2 or 4", trouble >= 0 && trouble <= 4 && trouble != 3, true);
            if (asks) {
                CHECK.due(at + " changes nothing", Dump.of(x), before);
            }
        }
    }

    private static boolean isQuestion(int call) {
        return call >= 3 && call <= 21 || call >= 24 && call <= 30 || call == 37 || call == 38;
    }

    private static long call(OuterRows x, int call, int[] a, Random random) {
        switch (call) {
            case 0: return x.feed(a[0], a[1], a[2], a[3], a[4]);
            case 1: return x.desk(a[0]);
            case 2: return x.more(a[0]);
            case 3: return x.fault();
            case 4: return x.where();
            case 5: return x.about(a[0]);
            case 6: return x.letter(a[0], a[1], a[2]);
            case 7: return x.net(a[0], a[1], a[2]);
            case 8: return x.there(a[0], a[1]);
            case 9: return x.key(a[0], a[1]);
            case 10: return x.debts(a[0]);
            case 11: return x.sent(a[0], a[1], a[2]);
            case 12: return x.join(a[0], a[1], a[2]);
            case 13: return x.closed(a[0], a[1], a[2]);
            case 14: return x.rows();
            case 15: return x.row(a[0], a[1]);
            case 16: return x.spell(a[0], a[1]);
            case 17: return x.traffic(a[0]);
            case 18: return x.log(a[0], a[1]);
            case 19: return x.flips(a[0], a[1]);
            case 20: return x.busiest();
            case 21: return x.dearest();
            case 22: return x.begin(a[0]);
            case 23: return x.pull(a[0]);
            case 24: return x.pulled(a[0], a[1], a[2]);
            case 25: return x.held(a[0], a[1], a[2], a[3]);
            case 26: return x.lag(a[0], a[1]);
            case 27: return x.would(a[0], a[1], a[2], a[3], a[4]);
            case 28: return x.nextLapse();
            case 29: return x.replay(a[0], a[1]);
            case 30: return x.cost(a[0]);
            case 31: return x.event(a[0], a[1], a[2], a[3], a[4]);
            case 32: return x.tick(a[0]);
            case 33: return x.how(a[0]);
            case 34: return x.bounds(a[0], a[1]) ? 1 : 0;
            case 35: return x.keep() ? 1 : 0;
            case 36: return x.back() ? 1 : 0;
            case 37: return x.size(a[0]);
            case 38: return x.single(a[0]);
            case 39: return Check.desk(x, TEXTS[random.nextInt(TEXTS.length)]);
            default: return Check.more(x, TEXTS[random.nextInt(TEXTS.length)]);
        }
    }
}
