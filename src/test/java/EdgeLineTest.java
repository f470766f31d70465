/** Terms I, the LINES: each bound of each kind of LINE. */
public final class EdgeLineTest {
    private static final Check CHECK = new Check("EdgeLineTest");
    private static final Lines LINES = new Lines(CHECK);
    private static final String[] HOWS = {"inner", "left", "right", "full"};
    private static final String[] REFUSED_NAMES = {"desk", "put", "back", "tick", "by", "at"};
    private static final String[] OTHER_NAMES = {"left", "right", "inner", "full", "keep", "late", "a", "desks", "pu", "bac", "ticks", "bye", "ate"};

    public static void main(String[] args) {
        deskAlone();
        hows();
        keeps();
        lates();
        deskAheadOfAllOthers();
        noDeskInMore();
        manies();
        maniesWithout();
        times();
        sides();
        refusedNames();
        otherNames();
        namesAreNumberedFromZero();
        keysAndValuesApart();
        eightOfEach();
        eightWithMore();
        lateEventsNameTheirs();
        ticks();
        partsOfLines();
        fortyLines();
        fortyLinesOfMore();
        CHECK.end();
    }

    private static void deskAlone() {
        CHECK.says("LINE {; LINE}: the desk's alone");
        OuterRows x = new OuterRows();
        CHECK.due("desk alone", x, Check.desk(x, Lines.DESK), 0, 0);
        CHECK.due("KEYS", x.about(3), 0);
        CHECK.due("VALUES", x.about(4), 0);
    }

    private static void hows() {
        CHECK.says("HOW: inner, left, right, or full");
        for (int how = 0; how < 4; how++) {
            OuterRows x = Check.deskOf("desk " + HOWS[how] + " keep 1 late 0");
            CHECK.due("about(0) of " + HOWS[how], x.about(0), how);
        }
        String[] others = {"outer", "lef", "lefts", "inne", "fulls", "desk", "keep", "a", "righ"};
        for (String other : others) {
            LINES.deskFaulty("desk " + other + " keep 1 late 0", 1, 5);
        }
        LINES.deskFaulty("desk keep 1 late 0", 1, 5);
        LINES.deskFaulty("desk 0 keep 1 late 0", 1, 5);
    }

    private static void keeps() {
        CHECK.says("KEEP, 1 .. 999");
        LINES.deskFaulty("desk full keep 0 late 5", 2, 15);
        LINES.deskFaulty("desk full keep 0000 late 5", 2, 15);
        LINES.deskFaulty("desk full keep 1000 late 5", 2, 15);
        LINES.deskFaulty("desk full keep 9999 late 5", 2, 15);
        CHECK.due("the least", Check.deskOf("desk full keep 1 late 5").about(1), 1);
        CHECK.due("the least, long", Check.deskOf("desk full keep 0001 late 5").about(1), 1);
        CHECK.due("the greatest", Check.deskOf("desk full keep 999 late 5").about(1), 999);
        CHECK.due("the greatest, long", Check.deskOf("desk full keep 0999 late 5").about(1), 999);
    }

    private static void lates() {
        CHECK.says("LATE, 0 .. 999");
        LINES.deskFaulty("desk full keep 5 late 1000", 2, 22);
        LINES.deskFaulty("desk full keep 5 late 9999", 2, 22);
        CHECK.due("the least", Check.deskOf("desk full keep 5 late 0").about(2), 0);
        CHECK.due("the greatest", Check.deskOf("desk full keep 5 late 999").about(2), 999);
    }

    private static void deskAheadOfAllOthers() {
        CHECK.says("desk .. ahead of all others");
        LINES.deskFaulty("tick 1;" + Lines.DESK, 5, 0);
        LINES.deskFaulty("put left k v at 1;" + Lines.DESK, 5, 0);
        LINES.deskFaulty("back left k v at 1;" + Lines.DESK, 5, 0);
        LINES.deskFaulty(Lines.DESK + ";tick 1;" + Lines.DESK, 3, Lines.DESK.length() + 8);
    }

    private static void noDeskInMore() {
        CHECK.says("in MORE there is none");
        LINES.moreFaulty(Lines.DESK, 3, 0);
        LINES.moreFaulty("tick 1;" + Lines.DESK, 3, 7);
        LINES.moreFaulty("desk", 3, 0);
    }

    private static void manies() {
        CHECK.says("how often, 1 .. 9");
        LINES.faulty("put left k v by 0 at 1", 2, 16);
        LINES.faulty("back left k v by 0 at 1", 2, 17);
        LINES.faulty("put left k v by 10 at 1", 2, 16);
        LINES.faulty("put right k v by 9999 at 1", 2, 17);
        CHECK.due("by 1", LINES.sound("put left k v by 1 at 1").net(0, 0, 0), 1);
        CHECK.due("by 9", LINES.sound("put left k v by 9 at 1").net(0, 0, 0), 9);
        CHECK.due("by 0009", LINES.sound("put left k v by 0009 at 1").net(0, 0, 0), 9);
        CHECK.due("back by 1", LINES.sound("back right k v by 1 at 1").net(1, 0, 0), -1);
        CHECK.due("back by 9", LINES.sound("back right k v by 9 at 1").net(1, 0, 0), -9);
    }

    private static void maniesWithout() {
        CHECK.says("1 without");
        CHECK.due("put", LINES.sound("put right k v at 1").net(1, 0, 0), 1);
        CHECK.due("back", LINES.sound("back left k v at 1").net(0, 0, 0), -1);
    }

    private static void times() {
        CHECK.says("TIME, 0 .. 9,999");
        CHECK.due("at 0", LINES.sound("put left k v at 0").key(0, 1), 0);
        CHECK.due("at 9999", LINES.sound("put left k v at 9999").key(0, 1), 9999);
        CHECK.due("CLOCK at 9999", LINES.sound("back left k v at 9999").about(5), 9999);
        LINES.faulty("put left k v at 10000", 1, 16);
        LINES.faulty("back left k v at 10000", 1, 17);
    }

    private static void sides() {
        CHECK.says("SIDE: left, or right");
        CHECK.due("left", LINES.sound("put left k v at 1").there(0, 0), 1);
        CHECK.due("right", LINES.sound("put right k v at 1").there(1, 0), 1);
        String[] others = {"inner", "full", "lef", "lefts", "a", "0", "by", "at", ";"};
        for (String other : others) {
            LINES.faulty("put " + other + " k v at 1", 1, 4);
            LINES.faulty("back " + other + " k v at 1", 1, 5);
        }
    }

    private static void refusedNames() {
        CHECK.says("WORDS but desk, put, back, tick, by, at");
        for (String name : REFUSED_NAMES) {
            LINES.faulty("put left " + name + " v at 1", 1, 9);
            LINES.faulty("put right k " + name + " at 1", 1, 12);
            LINES.faulty("back left " + name + " v at 1", 1, 10);
            LINES.faulty("back left k " + name + " at 1", 1, 12);
        }
    }

    private static void otherNames() {
        CHECK.says("KEY, VALUE: WORDS but ..");
        for (String name : OTHER_NAMES) {
            OuterRows x = LINES.sound("put left " + name + " " + name + " at 1");
            CHECK.due("rows", Check.rows(x), name + ":" + name + "|-*1");
        }
    }

    private static void namesAreNumberedFromZero() {
        CHECK.says("a WORD that isn't one yet is the next KEY, VALUE from then on, numbered from 0");
        OuterRows x = LINES.sound("put left b w at 1;put left a w at 1;put left b v at 1;put left a w at 1");
        CHECK.due("KEY 0", x.letter(0, 0, 0), 'b');
        CHECK.due("KEY 1", x.letter(0, 1, 0), 'a');
        CHECK.due("VALUE 0", x.letter(1, 0, 0), 'w');
        CHECK.due("VALUE 1", x.letter(1, 1, 0), 'v');
        CHECK.due("KEYS", x.about(3), 2);
        CHECK.due("VALUES", x.about(4), 2);
        CHECK.due("one that begins as another does", Check.more(x, "put left bb ww at 1"), 1);
        CHECK.due("is another", x.about(3), 3);
        CHECK.due("of VALUES, too", x.about(4), 3);
    }

    private static void keysAndValuesApart() {
        CHECK.says("the next KEY, VALUE: of each its own numbers");
        OuterRows x = LINES.sound("put left a b at 1;put left b a at 1");
        CHECK.due("KEY a", x.letter(0, 0, 0), 'a');
        CHECK.due("VALUE a", x.letter(1, 1, 0), 'a');
        CHECK.due("rows", Check.rows(x), "a:b|-*1 b:a|-*1");
    }

    private static String named(String line, int count) {
        StringBuilder all = new StringBuilder();
        for (int i = 0; i < count; i++) {
            all.append(i == 0 ? "" : ";").append(line.replace('#', (char) ('a' + i)));
        }
        return all.toString();
    }

    private static void eightOfEach() {
        CHECK.says("up to 8 of each; a ninth KEY, VALUE, at it");
        String keys = named("put left # v at 1", 8);
        OuterRows x = LINES.sound(keys);
        CHECK.due("eight KEYS", x.about(3), 8);
        LINES.faulty(keys + ";put left i v at 1", 4, keys.length() + 10);
        LINES.sound(keys + ";put left h v at 1");
        String values = named("put right k # at 1", 8);
        x = LINES.sound(values);
        CHECK.due("eight VALUES", x.about(4), 8);
        LINES.faulty(values + ";back right k i at 1", 4, values.length() + 14);
        LINES.sound(values + ";back right k h at 1");
        String both = named("put left # # at 1", 8);
        x = LINES.sound(both);
        CHECK.due("eight of both: KEYS", x.about(3), 8);
        CHECK.due("eight of both: VALUES", x.about(4), 8);
        LINES.faulty(both + ";put left i i at 1", 4, both.length() + 10);
        LINES.faulty(both + ";put left a i at 1", 4, both.length() + 12);
    }

    private static void eightWithMore() {
        CHECK.says("up to 8 of each: the DESK's and MORE's together");
        OuterRows x = Check.deskOf(Lines.DESK + ";" + named("put left # # at 1", 7));
        CHECK.due("the eighth", x, Check.more(x, "put left x x at 1"), 1, 0);
        CHECK.dueFault("a ninth KEY", x, Check.more(x, "put left y x at 1"), 4, 9);
        CHECK.dueFault("a ninth VALUE", x, Check.more(x, "put left x y at 1"), 4, 11);
        CHECK.due("KEYS", x.about(3), 8);
        CHECK.due("VALUES", x.about(4), 8);
        CHECK.due("a new DESK has none of them", Check.desk(x, Lines.DESK + ";put left y y at 1"), 1);
        CHECK.due("KEYS anew", x.about(3), 1);
    }

    private static void lateEventsNameTheirs() {
        CHECK.says("a WORD that isn't one yet is the next KEY: a TOO LATE one's, too");
        OuterRows x = LINES.sound("tick 99;put left k v at 1");
        CHECK.due("TOO LATE", x.about(8), 1);
        CHECK.due("KEYS", x.about(3), 1);
        CHECK.due("VALUES", x.about(4), 1);
    }

    private static void ticks() {
        CHECK.says("tick WHOLE (CLOCK is that TIME, if it is less)");
        CHECK.due("tick 0", LINES.sound("tick 0").about(5), 0);
        CHECK.due("tick 9999", LINES.sound("tick 9999").about(5), 9999);
        CHECK.due("one less", LINES.sound("tick 5;tick 4").about(5), 5);
        CHECK.due("the same", LINES.sound("tick 5;tick 5").about(5), 5);
        CHECK.due("one more", LINES.sound("tick 5;tick 6").about(5), 6);
        LINES.faulty("tick 10000", 1, 5);
    }

    private static void partsOfLines() {
        CHECK.says("TOKEN with which no TEXT goes on (the end: its place)");
        dueCutAnywhere("put left k v by 2 at 1", 20);
        dueCutAnywhere("back right k v at 1", 18);
        dueCutAnywhere("tick 1", 4);
        String desk = "desk full keep 9 late 9";
        for (int length = 0; length < desk.length(); length++) {
            String text = desk.substring(0, length);
            int last = text.lastIndexOf(' ') + 1;
            boolean endsWithin = length > last && !isToken(desk, text, last);
            LINES.deskFaulty(text, 1, endsWithin ? last : length);
        }
    }

    private static boolean isToken(String whole, String text, int last) {
        return whole.charAt(text.length()) == ' ' || Character.isDigit(text.charAt(last));
    }

    /** A LINE cut at a blank is refused at its end; so it is behind that blank. */
    private static void dueCutAnywhere(String line, int lastBlank) {
        for (int at = line.indexOf(' '); at >= 0 && at <= lastBlank; at = line.indexOf(' ', at + 1)) {
            LINES.faulty(line.substring(0, at), 1, at);
            LINES.faulty(line.substring(0, at + 1), 1, at + 1);
            LINES.faulty(line.substring(0, at) + ";", 1, at);
        }
        LINES.sound(line);
    }

    private static void fortyLines() {
        CHECK.says("a 41st LINE but the desk's, at its first WORD");
        String[] kinds = {"tick 1", "put left k v at 1", "back left k v at 1"};
        for (String kind : kinds) {
            String forty = Lines.times(40, kind);
            if (Lines.DESK.length() + 1 + forty.length() + 2 + kind.length() <= 900) {
                LINES.sound(forty);
                LINES.faulty(forty + ";" + kind, 4, forty.length() + 1);
                LINES.faulty(forty + "; " + kind, 4, forty.length() + 2);
            }
        }
        String most = Lines.times(39, "tick 1") + ";put left k v at 1";
        LINES.sound(most);
        LINES.faulty(most + ";put left k v at 1", 4, most.length() + 1);
        LINES.faulty(most + ";back left k v at 1", 4, most.length() + 1);
    }

    private static void fortyLinesOfMore() {
        CHECK.says("a 41st LINE: of one TEXT");
        OuterRows x = new OuterRows();
        CHECK.due("forty", x, Check.desk(x, Lines.DESK + ";" + Lines.times(40, "tick 1")), 0, 0);
        CHECK.due("forty as MORE", x, Check.more(x, Lines.times(40, "tick 2")), 0, 0);
        CHECK.due("one as MORE", x, Check.more(x, "tick 3"), 0, 0);
        CHECK.due("all were done", x.about(5), 3);
    }
}
