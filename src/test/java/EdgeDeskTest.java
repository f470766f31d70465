/** Promises 1, 3, 4, 7 and 8 at their bounds. */
public final class EdgeDeskTest {
    private static final Check CHECK = new Check("EdgeDeskTest");
    private static final String EIGHT = "desk full keep 999 late 999;put left a s at 9999;put left b t at 9999;put left c u at 9999;put left d v at 9999;"
        + "put left e w at 9999;put left f x at 9999;put left g y at 9999;put left hijkl zzzzz at 9999";

    public static void main(String[] args) {
        newObject();
        deskNumbers();
        tapeStaysByTwo();
        tapeIsEmptyThen();
        tapeIsEmptyByFourToo();
        deskStaysByFour();
        linesOneByOne();
        changesOfTheDesk();
        nothingKept();
        allAnewByADesk();
        moreWithoutDesk();
        moreNumbers();
        moreChanges();
        moreByFour();
        aboutOfNothing();
        aboutOfTheMost();
        aboutWhats();
        aboutCounts();
        letterKinds();
        letterNumbers();
        letterPlaces();
        CHECK.end();
    }

    private static void newObject() {
        CHECK.says("1: No DESK");
        OuterRows x = new OuterRows();
        CHECK.due("trouble()", x.trouble(), 0);
        CHECK.due("fault()", x.fault(), 0);
        CHECK.due("where()", x.where(), -1);
        for (int what = 0; what < 5; what++) {
            CHECK.due("size(" + what + ")", x.size(what), 0);
        }
        CHECK.due("about(0)", x, x.about(0), -1, 1);
        CHECK.dueNoSingle(x, 0);
        OuterRows other = Check.deskOf(Lines.DESK);
        CHECK.due("another object's DESK", other.about(0), 3);
        CHECK.due("is not this one's", x.about(0), -1);
    }

    private static void deskNumbers() {
        CHECK.says("3: The first n bytes; NONE: 2");
        OuterRows x = new OuterRows();
        int[] wrong = {-1, 1, 900, 901, Integer.MIN_VALUE, Integer.MAX_VALUE};
        for (int n : wrong) {
            CHECK.due("desk(" + n + ") of an empty TAPE", x, x.desk(n), -1, 2);
        }
        CHECK.due("desk(0) of an empty TAPE", x, x.desk(0), -1, 4);
        String text = Lines.DESK.replace("late 9", "late 98 ").substring(0, 24);
        Check.feed(x, text);
        CHECK.due("desk(41)", x, x.desk(41), -1, 2);
        CHECK.due("desk(40)", x, x.desk(40), 0, 0);
        CHECK.due("all of it", x.about(2), 98);
        Check.feed(x, text);
        CHECK.due("desk(23)", x, x.desk(23), 0, 0);
        CHECK.due("a byte less", x.about(2), 9);
    }

    private static void tapeStaysByTwo() {
        CHECK.says("3: 2 (THE TAPE stays)");
        OuterRows x = new OuterRows();
        Check.feed(x, Lines.DESK);
        x.desk(-1);
        CHECK.due("size(0)", x.size(0), 40);
        x.desk(41);
        CHECK.due("size(0)", x.size(0), 40);
        CHECK.due("its bytes", x, x.desk(Lines.DESK.length()), 0, 0);
    }

    private static void tapeIsEmptyThen() {
        CHECK.says("3: (it is empty then)");
        OuterRows x = new OuterRows();
        Check.feed(x, Lines.DESK + ";put left k v at 1;tick 5");
        CHECK.due("desk of a part", x, x.desk(Lines.DESK.length()), 0, 0);
        CHECK.due("the rest is gone, too", x.size(0), 0);
        CHECK.due("nothing of it is left", x, x.more(1), -1, 2);
        Check.feed(x, "tick 7");
        CHECK.due("bytes come to its beginning", x, x.more(6), 0, 0);
        CHECK.due("CLOCK", x.about(5), 7);
    }

    private static void tapeIsEmptyByFourToo() {
        CHECK.says("3, 4: THE TAPE stays by 2 alone (and 1)");
        OuterRows x = new OuterRows();
        Check.feed(x, Lines.DESK + ";x");
        CHECK.due("desk() by 4", x, x.desk(Lines.DESK.length() + 2), -1, 4);
        CHECK.due("size(0)", x.size(0), 0);
        Check.desk(x, Lines.DESK);
        Check.feed(x, "tick 5");
        CHECK.due("more() by 4", x, x.more(4), -1, 4);
        CHECK.due("size(0)", x.size(0), 0);
    }

    private static void deskStaysByFour() {
        CHECK.says("3: 4 (the DESK stays)");
        OuterRows x = Check.deskOf("desk left keep 5 late 2;put left k v by 3 at 4;put right m w at 4");
        x.begin(1);
        x.keep();
        String before = Dump.of(x);
        String[] texts = {"", "desk full keep 5 late 0;", "desk full keep 0", "desk full keep 7 late 3;put left a b at 9;desk", "tick 99",
            "desk full keep 7 late 3;put left a b at 9;tick 99;put left c"};
        for (String text : texts) {
            CHECK.due("'" + text + "'", x, Check.desk(x, text), -1, 4);
            CHECK.due("all behind '" + text + "'", Dump.of(x), before);
        }
        OuterRows none = new OuterRows();
        Check.desk(none, "desk full keep 7 late 3;put left a b at 9;desk");
        CHECK.due("no DESK stays none", none.about(0), -1);
    }

    private static void linesOneByOne() {
        CHECK.says("3: all its LINES done one by one");
        OuterRows x = Check.deskOf("desk full keep 2 late 9;put left k v at 1;tick 3;put right k v at 3;tick 5;tick 6;put left k v at 6");
        CHECK.due("rows", Check.rows(x), "k:v|v*1 k:v|-*1");
        CHECK.due("LAPSES between LINES", x.about(9), 1);
        CHECK.due("a later tick only", Check.deskOf("desk full keep 2 late 9;put left k v at 1;put right k v at 1;tick 9").about(9), 1);
        CHECK.due("TOO LATE between LINES", Check.deskOf("desk full keep 9 late 0;put left k v at 1;put left k v at 0;tick 5;put left k v at 4").about(8), 2);
    }

    private static void changesOfTheDesk() {
        CHECK.says("3: how many CHANGES were sent");
        OuterRows x = new OuterRows();
        CHECK.due("none of the desk's LINE", Check.desk(x, Lines.DESK), 0);
        CHECK.due("none of ticks", Check.desk(x, Lines.DESK + ";tick 5"), 0);
        CHECK.due("one", Check.desk(x, Lines.DESK + ";put left k v by 9 at 1"), 1);
        CHECK.due("three, not those of the DESK ahead", Check.desk(x, Lines.DESK + ";put left k v at 1;put right k v at 1"), 3);
        CHECK.due("none by inner", Check.desk(x, "desk inner keep 9 late 9;put left k v at 1"), 0);
    }

    private static void nothingKept() {
        CHECK.says("3: (nothing kept)");
        OuterRows x = Check.deskOf(Lines.DESK);
        x.keep();
        CHECK.due("kept", x.size(3), 1);
        Check.desk(x, Lines.DESK);
        CHECK.due("not kept", x.size(3), 0);
        CHECK.due("back()", x.back(), false);
        CHECK.due("trouble()", x.trouble(), 1);
    }

    private static void allAnewByADesk() {
        CHECK.says("3: are the DESK from now on");
        String[] texts = {"desk right keep 3 late 1;put right m w at 2", "desk left keep 3 late 1;put right m w at 2", "desk inner keep 1 late 0"};
        for (String text : texts) {
            dueAnew(text);
        }
    }

    private static void dueAnew(String text) {
        String fresh = Dump.of(Check.deskOf(text));
        // each EVENT of the old STORE would be seen in cost(3)
        OuterRows x = Check.deskOf("desk full keep 2 late 0;put left k v by 9 at 1;put left l v at 1;tick 9;put right l v at 9;put right l u at 3;back left m w at 9");
        x.begin(0);
        x.begin(3);
        x.event(0, 0, 0, 1, 9);
        x.pull(0);
        x.how(1);
        x.keep();
        Check.desk(x, text);
        CHECK.due("nothing of the DESK ahead of '" + text + "'", Dump.of(x), fresh);
    }

    private static void moreWithoutDesk() {
        CHECK.says("4: 1 (no DESK; THE TAPE stays)");
        OuterRows x = new OuterRows();
        Check.feed(x, Lines.DESK);
        int[] numbers = {0, 6, 40, 41, -1, Integer.MAX_VALUE};
        for (int n : numbers) {
            CHECK.due("more(" + n + ")", x, x.more(n), -1, 1);
            CHECK.due("size(0)", x.size(0), 40);
        }
        CHECK.due("its bytes", x, x.desk(40), 0, 0);
    }

    private static void moreNumbers() {
        CHECK.says("4: 2 (THE TAPE stays)");
        OuterRows x = Check.deskOf(Lines.DESK);
        CHECK.due("more(1) of an empty TAPE", x, x.more(1), -1, 2);
        CHECK.due("more(0) of an empty TAPE", x, x.more(0), -1, 4);
        Check.feed(x, "tick 1234");
        int[] wrong = {-1, 21, 900, 901, Integer.MIN_VALUE, Integer.MAX_VALUE};
        for (int n : wrong) {
            CHECK.due("more(" + n + ")", x, x.more(n), -1, 2);
            CHECK.due("size(0)", x.size(0), 20);
        }
        CHECK.due("more(20)", x, x.more(20), 0, 0);
        CHECK.due("CLOCK", x.about(5), 1234);
    }

    private static void moreChanges() {
        CHECK.says("4: how many CHANGES they sent");
        OuterRows x = Check.deskOf(Lines.DESK + ";put left k v at 1;put left k w at 1");
        CHECK.due("none", x, Check.more(x, "tick 2"), 0, 0);
        CHECK.due("two go, two come", x, Check.more(x, "put right k v at 2"), 4, 0);
        CHECK.due("of both LINES", x, Check.more(x, "back left k v at 2;back left k w at 2"), 3, 0);
        CHECK.due("CHANGES in all", x.traffic(2), 9);
    }

    private static void moreByFour() {
        CHECK.says("4: 4 (all stays as it is, KEYS, VALUES, too)");
        OuterRows x = Check.deskOf("desk left keep 2 late 1;put left k v by 3 at 4;put right m w at 4");
        x.begin(1);
        x.keep();
        String before = Dump.of(x);
        String[] texts = {"", "put left a b at 5;tick 99;", "put left a b at 5;tick 99;desk", "put left a b by 0 at 5", "put left k v at 5;put right n",
            Lines.times(41, "put left a b at 9"), "tick 9999;put left k v at 5;%"};
        for (String text : texts) {
            CHECK.due("'" + text + "'", x, Check.more(x, text), -1, 4);
            CHECK.due("all behind '" + text + "'", Dump.of(x), before);
        }
        CHECK.due("the next KEY is the third", Check.more(x, "put left n u at 5"), 1);
        CHECK.due("its letter", x.letter(0, 2, 0), 'n');
        CHECK.due("the third VALUE's", x.letter(1, 2, 0), 'u');
    }

    private static void dueAbout(OuterRows x, int... due) {
        for (int what = 0; what < 10; what++) {
            CHECK.due("about(" + what + ")", x, x.about(what), due[what], 0);
        }
    }

    private static void aboutOfNothing() {
        CHECK.says("7: of a DESK with nothing in it");
        dueAbout(Check.deskOf("desk inner keep 1 late 0"), 0, 1, 0, 0, 0, 0, 0, 0, 0, 0);
    }

    private static void aboutOfTheMost() {
        CHECK.says("7: of all that there is room for");
        dueAbout(Check.deskOf(EIGHT), 3, 999, 999, 8, 8, 9999, 8, 8, 0, 0);
    }

    private static void aboutWhats() {
        CHECK.says("7: NONE: 1 (what, too)");
        OuterRows x = Check.deskOf(Lines.DESK);
        int[] wrong = {-1, 10, 11, Integer.MIN_VALUE, Integer.MAX_VALUE};
        for (int what : wrong) {
            CHECK.due("about(" + what + ")", x, x.about(what), -1, 1);
        }
        OuterRows none = new OuterRows();
        for (int what = -1; what <= 10; what++) {
            CHECK.due("about(" + what + ") without a DESK", none, none.about(what), -1, 1);
        }
    }

    private static void aboutCounts() {
        CHECK.says("7: KEYS that live, EVENTS that weren't TOO LATE and exchanges of HOW, those TOO LATE, LAPSES");
        OuterRows x = Check.deskOf("desk full keep 1 late 1;put left a v at 5;put left b v at 4;put left c v at 3");
        dueAbout(x, 3, 1, 1, 3, 1, 5, 2, 2, 1, 0);
        x.tick(6);
        dueAbout(x, 3, 1, 1, 3, 1, 6, 1, 2, 1, 1);
        x.how(3);
        dueAbout(x, 3, 1, 1, 3, 1, 6, 1, 3, 1, 1);
        x.tick(7);
        dueAbout(x, 3, 1, 1, 3, 1, 7, 0, 3, 1, 2);
        x.event(0, 1, 0, 1, 5);
        dueAbout(x, 3, 1, 1, 3, 1, 7, 0, 3, 2, 2);
        x.event(0, 1, 0, 1, 6);
        dueAbout(x, 3, 1, 1, 3, 1, 7, 1, 4, 2, 2);
    }

    private static void letterKinds() {
        CHECK.says("8: KEY (kind 0), VALUE (1); NONE: 1 (kind, too)");
        OuterRows x = Check.deskOf(EIGHT);
        CHECK.due("letter(0, 0, 0)", x, x.letter(0, 0, 0), 'a', 0);
        CHECK.due("letter(1, 0, 0)", x, x.letter(1, 0, 0), 's', 0);
        int[] wrong = {-1, 2, Integer.MIN_VALUE, Integer.MAX_VALUE};
        for (int kind : wrong) {
            CHECK.due("letter(" + kind + ", 0, 0)", x, x.letter(kind, 0, 0), -1, 1);
        }
        OuterRows none = new OuterRows();
        CHECK.due("without a DESK", none, none.letter(0, 0, 0), -1, 1);
    }

    private static void letterNumbers() {
        CHECK.says("8: NONE: 1 (no such KEY, VALUE)");
        OuterRows x = Check.deskOf(EIGHT);
        CHECK.due("the eighth KEY", x, x.letter(0, 7, 0), 'h', 0);
        CHECK.due("the eighth VALUE", x, x.letter(1, 7, 0), 'z', 0);
        int[] wrong = {-1, 8, 9, Integer.MIN_VALUE, Integer.MAX_VALUE};
        for (int number : wrong) {
            CHECK.due("letter(0, " + number + ", 0)", x, x.letter(0, number, 0), -1, 1);
            CHECK.due("letter(1, " + number + ", 0)", x, x.letter(1, number, 0), -1, 1);
        }
        x = Check.deskOf(Lines.DESK);
        CHECK.due("no KEY", x, x.letter(0, 0, 0), -1, 1);
        CHECK.due("no VALUE", x, x.letter(1, 0, 0), -1, 1);
        x = Check.deskOf(Lines.DESK + ";put left a v at 1;put left b v at 1");
        CHECK.due("two KEYS", x, x.letter(0, 1, 0), 'b', 0);
        CHECK.due("one VALUE", x, x.letter(1, 1, 0), -1, 1);
    }

    private static void letterPlaces() {
        CHECK.says("8: Letter i; 0 behind its end; NONE: 1 (i below 0, too)");
        OuterRows x = Check.deskOf(EIGHT);
        CHECK.due("the last of five", x, x.letter(0, 7, 4), 'l', 0);
        CHECK.due("behind five", x, x.letter(0, 7, 5), 0, 0);
        CHECK.due("the last of one", x, x.letter(0, 0, 0), 'a', 0);
        int[] behind = {1, 2, 4, 5, 8, 31, 32, 64, Integer.MAX_VALUE};
        for (int i : behind) {
            CHECK.due("letter(0, 0, " + i + ")", x, x.letter(0, 0, i), 0, 0);
            CHECK.due("letter(1, 0, " + i + ")", x, x.letter(1, 0, i), 0, 0);
        }
        CHECK.due("letter(0, 0, -1)", x, x.letter(0, 0, -1), -1, 1);
        CHECK.due("letter(1, 7, -1)", x, x.letter(1, 7, -1), -1, 1);
        CHECK.due("letter(0, 0, MIN)", x, x.letter(0, 0, Integer.MIN_VALUE), -1, 1);
    }
}
