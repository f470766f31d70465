/** Promises 29 to 32, and THE STORE, at their bounds. */
public final class EdgeWouldTest {
    private static final Check CHECK = new Check("EdgeWouldTest");
    private static final int MIN = Check.MIN;

    public static void main(String[] args) {
        manies();
        times();
        unknownAheadOfNumbers();
        wouldIsWhatEventSends();
        wouldOnTheEdgeOfLate();
        wouldOnTheEdgeOfALapse();
        wouldChangesNothing();
        nextLapseOfNone();
        nextLapseOfLikeOnes();
        nextLapseOfTheLast();
        storeOfTheFirstSixty();
        storeWithoutLateOnes();
        replayOfNothing();
        replayOfOneAndTwo();
        replaySeeds();
        replayWhats();
        replayWithoutLapses();
        replayByThisHow();
        replayDrawsFromTheSeed();
        replayIsTheSameAgain();
        costHows();
        costOfNothing();
        costInTheOrderOfTheStore();
        CHECK.end();
    }

    private static OuterRows desk() {
        return Check.deskOf("desk full keep 4 late 3;put left k v by 2 at 10;put right k w by 3 at 10;put left l v at 10");
    }

    private static void manies() {
        CHECK.says("29: many -9 .. 9, not 0: NONE: 2");
        OuterRows x = desk();
        int[] wrong = {0, 10, -10, MIN, Integer.MAX_VALUE};
        for (int many : wrong) {
            CHECK.due("would of " + many, x, x.would(0, 0, 0, many, 10), -1, 2);
            CHECK.due("event of " + many, x, x.event(0, 0, 0, many, 10), -1, 2);
        }
        int[] right = {-9, -1, 1, 9};
        for (int many : right) {
            CHECK.due("would of " + many, x, x.would(0, 1, 0, many, 10), 1, 0);
        }
    }

    private static void times() {
        CHECK.says("29: at a TIME (0 .. 9,999): NONE: 2");
        OuterRows x = desk();
        int[] wrong = {-1, 10000, MIN, Integer.MAX_VALUE};
        for (int time : wrong) {
            CHECK.due("would at " + time, x, x.would(0, 0, 0, 1, time), -1, 2);
            CHECK.due("event at " + time, x, x.event(0, 0, 0, 1, time), -1, 2);
        }
        CHECK.due("would at 0", x, x.would(0, 0, 0, 1, 0), -2, 0);
        CHECK.due("would at 9999", x, x.would(0, 0, 0, 1, 9999), 1, 0);
    }

    private static void unknownAheadOfNumbers() {
        CHECK.says("29, 33: NONE: 1; 2");
        OuterRows x = desk();
        int[][] unknown = {{-1, 0, 0}, {2, 0, 0}, {0, -1, 0}, {0, 2, 0}, {0, 0, -1}, {0, 0, 2}, {MIN, 0, 0}, {0, Integer.MAX_VALUE, 0}, {0, 0, 8}};
        for (int[] u : unknown) {
            CHECK.due("would, 1 alone", x, x.would(u[0], u[1], u[2], 1, 10), -1, 1);
            CHECK.due("would, 2 behind it", x, x.would(u[0], u[1], u[2], 0, -1), -1, 1);
            CHECK.due("event, 1 alone", x, x.event(u[0], u[1], u[2], 1, 10), -1, 1);
            CHECK.due("event, 2 behind it", x, x.event(u[0], u[1], u[2], 10, 10000), -1, 1);
            CHECK.due("would, TOO LATE behind it", x, x.would(u[0], u[1], u[2], 1, 0), -1, 1);
        }
        CHECK.due("would, 2 ahead of TOO LATE", x, x.would(0, 0, 0, 0, 0), -1, 2);
        OuterRows none = new OuterRows();
        CHECK.due("would without a DESK", none, none.would(0, 0, 0, 0, -1), -1, 1);
        CHECK.due("event without a DESK", none, none.event(0, 0, 0, 0, -1), -1, 1);
    }

    private static void wouldIsWhatEventSends() {
        CHECK.says("29: How many CHANGES an EVENT at a TIME would send");
        int[] times = {6, 7, 10, 14, 15, 9999};
        for (int i = 0; i < 2 * 2 * 2 * 18; i++) {
            int side = i % 2;
            int key = i / 2 % 2;
            int value = i / 4 % 2;
            int many = i / 8 < 9 ? i / 8 - 9 : i / 8 - 8;
            for (int time : times) {
                OuterRows x = desk();
                int would = x.would(side, key, value, many, time);
                CHECK.due("event(" + side + ", " + key + ", " + value + ", " + many + ", " + time + ")", x.event(side, key, value, many, time), would);
            }
        }
    }

    private static void wouldOnTheEdgeOfLate() {
        CHECK.says("29: -2 it would be TOO LATE");
        OuterRows x = desk();
        CHECK.due("CLOCK less LATE", x, x.would(0, 1, 0, 1, 7), 1, 0);
        CHECK.due("one less", x, x.would(0, 1, 0, 1, 6), -2, 0);
        x.bounds(4, 10);
        CHECK.due("TIME 0 by another LATE", x, x.would(0, 1, 0, 1, 0), 1, 0);
        x.bounds(4, 9);
        CHECK.due("TIME 0 by one less", x, x.would(0, 1, 0, 1, 0), -2, 0);
    }

    private static void wouldOnTheEdgeOfALapse() {
        CHECK.says("29: KEYS that LAPSE ahead of it");
        OuterRows x = desk();
        CHECK.due("joined at 14", x, x.would(0, 0, 0, -9, 14), 2, 0);
        CHECK.due("lapsed at 15", x, x.would(0, 0, 0, -9, 15), 0, 0);
        CHECK.due("an OUTER row at 15", x, x.would(0, 0, 0, 1, 15), 1, 0);
        x.bounds(1, 9);
        x.tick(11);
        CHECK.due("none lapsed", x.about(9), 0);
        x.bounds(4, 9);
        x.tick(14);
        x.bounds(1, 9);
        CHECK.due("by another KEEP, of a TIME ahead of CLOCK", x, x.would(0, 0, 0, -9, 10), 0, 0);
    }

    private static void wouldChangesNothing() {
        CHECK.says("29: would");
        OuterRows x = desk();
        x.begin(0);
        String before = Dump.of(x);
        x.would(0, 0, 0, -9, 14);
        x.would(1, 1, 1, 9, 9999);
        x.would(1, 1, 1, 9, 0);
        CHECK.due("all is as it was", Dump.of(x), before);
    }

    private static void nextLapseOfNone() {
        CHECK.says("30: -2 none lives. NONE: 1 (no DESK)");
        OuterRows x = Check.deskOf("desk full keep 4 late 3");
        CHECK.due("no KEY", x, x.nextLapse(), -2, 0);
        Check.more(x, "tick 9;put left k v at 5");
        CHECK.due("a KEY of a TOO LATE one", x, x.nextLapse(), -2, 0);
        x.event(0, 0, 0, 1, 9);
        CHECK.due("it lives", x, x.nextLapse(), 0, 0);
        x.tick(14);
        CHECK.due("it lapsed", x, x.nextLapse(), -2, 0);
        OuterRows none = new OuterRows();
        CHECK.due("without a DESK", none, none.nextLapse(), -1, 1);
    }

    private static void nextLapseOfLikeOnes() {
        CHECK.says("30: The KEY that would LAPSE first, of like ones the least");
        OuterRows x = Check.deskOf("desk full keep 4 late 9;put left a v at 5;put left b v at 4;put left c v at 4;put left d v at 6");
        CHECK.due("of like ones", x, x.nextLapse(), 1, 0);
        x.event(0, 1, 0, 1, 4);
        CHECK.due("of like ones still", x, x.nextLapse(), 1, 0);
        x.event(0, 1, 0, -1, 5);
        CHECK.due("the other one", x, x.nextLapse(), 2, 0);
        x.event(0, 2, 0, -1, 5);
        CHECK.due("of three the least", x, x.nextLapse(), 0, 0);
        x.event(0, 3, 0, 1, 5);
        CHECK.due("an older EVENT doesn't count", x, x.nextLapse(), 0, 0);
        CHECK.due("they do LAPSE so", x.tick(10), 3);
        CHECK.due("the last one", x, x.nextLapse(), 3, 0);
    }

    private static void nextLapseOfTheLast() {
        CHECK.says("30: the eighth KEY");
        OuterRows x = Full.ofNames();
        x.event(0, 7, 0, 1, 1);
        CHECK.due("nextLapse()", x, x.nextLapse(), 7, 0);
        x.event(0, 0, 0, 1, 0);
        CHECK.due("one that is older", x, x.nextLapse(), 0, 0);
    }

    private static void storeOfTheFirstSixty() {
        CHECK.says("THE STORE: the first 60 EVENTS that weren't TOO LATE");
        OuterRows x = Check.deskOf("desk left keep 999 late 9;put left k v at 1");
        for (int count = 1; count <= 70; count++) {
            int stored = Math.min(60, count);
            CHECK.due("size(2)", x.size(2), stored);
            CHECK.due("cost(1)", x, x.cost(1), stored, 0);
            CHECK.due("cost(0)", x, x.cost(0), 0, 0);
            CHECK.due("replay(9, 2)", x, x.replay(9, 2), stored, 0);
            x.event(0, 0, 0, 1, 1);
        }
        x.event(0, 0, 0, -9, 1);
        CHECK.due("the first ones, not the latest", x, x.replay(9, 2), 60, 0);
        Check.more(x, "put right k v at 1");
        CHECK.due("a TEXT's neither", x, x.cost(0), 0, 0);
    }

    private static void storeWithoutLateOnes() {
        CHECK.says("THE STORE: EVENTS that weren't TOO LATE (no ticks, no exchanges)");
        OuterRows x = Check.deskOf("desk left keep 9 late 0;tick 5;put left k v at 4");
        CHECK.due("a TOO LATE one", x.size(2), 0);
        x.event(0, 0, 0, 1, 4);
        x.tick(6);
        x.how(3);
        x.event(0, 0, 0, 0, 6);
        x.would(0, 0, 0, 1, 6);
        CHECK.due("others", x.size(2), 0);
        x.event(0, 0, 0, -1, 6);
        CHECK.due("one without CHANGES", x.size(2), 1);
        x.tick(99);
        CHECK.due("one of a KEY that lapsed", x.size(2), 1);
    }

    private static void replayOfNothing() {
        CHECK.says("31: of an empty STORE");
        OuterRows x = Check.deskOf("desk left keep 9 late 0");
        for (int what = 0; what < 3; what++) {
            CHECK.due("replay(0, " + what + ")", x, x.replay(0, what), 0, 0);
            CHECK.due("replay(65536, " + what + ")", x, x.replay(65536, what), 0, 0);
        }
    }

    private static void replayOfOneAndTwo() {
        CHECK.says("31: For i from the last one down to 1");
        OuterRows x = Check.deskOf("desk left keep 9 late 0;put left k v by 2 at 1");
        CHECK.due("one: no DRAW", x, x.replay(7, 0), 1, 0);
        Check.more(x, "put right k v by 2 at 1");
        // DRAW of SEED 0 is 74: even, so places 1 and 0 change; of SEED 1 it is 149: odd, they stay
        CHECK.due("right one first", x, x.replay(0, 0), 1, 0);
        CHECK.due("left one first", x, x.replay(1, 0), 3, 0);
        CHECK.due("rows", x, x.replay(0, 1), 1, 0);
        CHECK.due("SENT", x, x.replay(0, 2), 4, 0);
    }

    private static void replaySeeds() {
        CHECK.says("31: a SEED (0 .. 65,536); 2");
        OuterRows x = desk();
        int[] wrong = {-1, 65537, MIN, Integer.MAX_VALUE};
        for (int seed : wrong) {
            CHECK.due("replay(" + seed + ", 0)", x, x.replay(seed, 0), MIN, 2);
        }
        int[] right = {0, 1, 65535, 65536};
        for (int seed : right) {
            CHECK.due("replay(" + seed + ", 2)", x, x.replay(seed, 2), 7, 0);
        }
    }

    private static void replayWhats() {
        CHECK.says("31: Integer.MIN_VALUE: 1 (what, too); 2");
        OuterRows x = desk();
        int[] wrong = {-1, 3, MIN, Integer.MAX_VALUE};
        for (int what : wrong) {
            CHECK.due("replay(0, " + what + ")", x, x.replay(0, what), MIN, 1);
            CHECK.due("replay(-1, " + what + ")", x, x.replay(-1, what), MIN, 1);
        }
        OuterRows none = new OuterRows();
        CHECK.due("without a DESK", none, none.replay(-1, 0), MIN, 1);
        CHECK.due("without a DESK", none, none.replay(0, 3), MIN, 1);
    }

    private static void replayWithoutLapses() {
        CHECK.says("31: none TOO LATE, no KEY LAPSING");
        OuterRows x = Check.deskOf("desk full keep 1 late 0;put left k v by 2 at 1;put right k v by 3 at 9000;put left k v at 9999");
        CHECK.due("SENT here", Check.rows(x), "k:v|-*3 k:-|v*3");
        for (int seed = 0; seed < 50; seed++) {
            CHECK.due("rows", x.replay(seed, 1), 1);
            CHECK.due("SENT", x.replay(seed, 2), 9);
        }
        CHECK.due("cost(3)", x.cost(3), 4);
    }

    private static void replayByThisHow() {
        CHECK.says("31: an empty DESK of this HOW");
        OuterRows x = Check.deskOf("desk full keep 99 late 0;put left k v by 2 at 1;put right l v by 3 at 1");
        int[] due = {0, 2, 3, 5};
        for (int how = 0; how < 4; how++) {
            x.how(how);
            CHECK.due("SENT by " + how, x, x.replay(5, 2), due[how], 0);
            CHECK.due("CHANGES by " + how, x, x.replay(5, 0), Integer.bitCount(how), 0);
        }
    }

    /** The document's own words once more, on numbers of places. */
    private static int[] orderBy(int seed, int count) {
        int[] order = new int[count];
        for (int i = 0; i < count; i++) {
            order[i] = i;
        }
        long draw = seed;
        for (int i = count - 1; i >= 1; i--) {
            draw = (75 * draw + 74) % 65537;
            int j = (int) (draw % (i + 1));
            int moved = order[i];
            order[i] = order[j];
            order[j] = moved;
        }
        return order;
    }

    private static void replayDrawsFromTheSeed() {
        CHECK.says("31: place i and place DRAW mod (i and 1) change places; SEED becomes (75 times SEED and 74) mod 65,537");
        for (int count = 2; count <= 60; count += 29) {
            int rightOne = count / 2;
            OuterRows x = Full.ofNames();
            x.how(1);
            for (int i = 0; i < count; i++) {
                x.event(i == rightOne ? 1 : 0, 0, 0, 1, 1);
            }
            for (int seed = 0; seed <= 65536; seed += 64) {
                // each left EVENT sends one CHANGE; the right one none if it comes first, else two
                int ofRight = orderBy(seed, count)[0] == rightOne ? 0 : 2;
                CHECK.due("replay(" + seed + ", 0) of " + count, x, x.replay(seed, 0), count - 1 + ofRight, 0);
            }
        }
    }

    private static void replayIsTheSameAgain() {
        CHECK.says("31, 32: what would be: nothing comes of it");
        OuterRows x = desk();
        x.begin(0);
        String before = Dump.of(x);
        int first = x.replay(4711, 0);
        x.cost(0);
        x.replay(1, 2);
        CHECK.due("again", x.replay(4711, 0), first);
        CHECK.due("all is as it was", Dump.of(x), before);
    }

    private static void costHows() {
        CHECK.says("32: by HOW 0 .. 3. NONE: 1 (no DESK); 2");
        OuterRows x = desk();
        int[] due = {1, 4, 1, 4};
        for (int how = 0; how < 4; how++) {
            CHECK.due("cost(" + how + ")", x, x.cost(how), due[how], 0);
        }
        int[] wrong = {-1, 4, MIN, Integer.MAX_VALUE};
        OuterRows none = new OuterRows();
        for (int how : wrong) {
            CHECK.due("cost(" + how + ")", x, x.cost(how), -1, 2);
            CHECK.due("cost(" + how + ") without a DESK", none, none.cost(how), -1, 1);
        }
        CHECK.due("cost(0) without a DESK", none, none.cost(0), -1, 1);
    }

    private static void costOfNothing() {
        CHECK.says("32: of an empty STORE");
        OuterRows x = Check.deskOf("desk left keep 9 late 0;tick 5;put left k v at 4");
        for (int how = 0; how < 4; how++) {
            CHECK.due("cost(" + how + ")", x, x.cost(how), 0, 0);
        }
    }

    private static void costInTheOrderOfTheStore() {
        CHECK.says("32: in the order of THE STORE");
        OuterRows x = Check.deskOf("desk inner keep 9 late 9;put left k v at 1;put right k v at 1;put left k w at 1;back right k v at 1");
        // by left: (v,-) | (v,-) (v,v) | (w,v) | (v,v) (w,v) (v,-) (w,-)
        CHECK.due("cost(1)", x, x.cost(1), 8, 0);
        CHECK.due("cost(2)", x, x.cost(2), 4, 0);
        x.replay(3, 0);
        CHECK.due("cost(1) behind a replay", x, x.cost(1), 8, 0);
    }
}
