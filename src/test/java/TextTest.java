/** Promises 1 to 8: a new object, THE TAPE, desk, more, fault, where, about, letter. */
public final class TextTest {
    private static final String DESK = "desk inner keep 5 late 0";
    private static final Check CHECK = new Check("TextTest");

    public static void main(String[] args) {
        newObject();
        tapeFills();
        tapeBytes();
        deskNumbers();
        deskStartsAnew();
        deskFaultStays();
        moreRefusals();
        moreFaultStays();
        cutTexts();
        tokens();
        formFaults();
        boundFaults();
        againFaults();
        manyFaults();
        manyFaultsOfMore();
        lackFaults();
        firstFaultCounts();
        faultAndWhere();
        aboutAll();
        letters();
        lateWordsAreNamed();
        CHECK.end();
    }

    private static void newObject() {
        OuterRows x = new OuterRows();
        CHECK.due("trouble() of a new one", x.trouble(), 0);
        CHECK.due("fault() of a new one", x.fault(), 0);
        CHECK.due("where() of a new one", x.where(), -1);
        CHECK.due("about(0) of a new one", x, x.about(0), -1, 1);
        CHECK.due("size(0) of a new one", x.size(0), 0);
    }

    private static void tapeFills() {
        OuterRows x = new OuterRows();
        for (int i = 1; i <= 45; i++) {
            CHECK.due("feed " + i, x.feed(i, i, i, i, i), 20 * i);
        }
        CHECK.due("feed 46", x.feed(1, 1, 1, 1, 1), -1);
        CHECK.due("size(0) of a full tape", x.size(0), 900);
        CHECK.due("feed is never refused by a number", x.trouble(), 0);
        CHECK.due("desk(901)", x, x.desk(901), -1, 2);
        CHECK.due("desk(900)", x, x.desk(900), -1, 4);
        CHECK.due("feed behind it", x.feed(0, 0, 0, 0, 0), 20);
    }

    private static void tapeBytes() {
        // the highest byte of each number comes first, and a byte above 127 is no TOKEN
        OuterRows x = Check.deskOf(DESK);
        int ends = 't' << 24 | 'i' << 16 | 'c' << 8 | 'k';
        int digits = ' ' << 24 | '7' << 16 | ' ' << 8 | ' ';
        int blanks = 0x20202020;
        x.feed(ends, digits, blanks, blanks, blanks);
        CHECK.due("more(8)", x, x.more(8), 0, 0);
        CHECK.due("about(5)", x.about(5), 7);
        for (int b = 0; b < 256; b++) {
            x.feed(ends, digits, b << 24 | 0x202020, blanks, blanks);
            boolean isToken = b == ' ';
            CHECK.due("byte " + b, x.more(9), isToken ? 0 : -1);
            CHECK.due("where() of byte " + b, x.where(), isToken ? -1 : b == ';' ? 9 : 8);
        }
    }

    private static void deskNumbers() {
        OuterRows x = new OuterRows();
        CHECK.due("desk(-1)", x, x.desk(-1), -1, 2);
        CHECK.due("desk(1) of an empty tape", x, x.desk(1), -1, 2);
        int n = Check.feed(x, DESK);
        CHECK.due("desk(41)", x, x.desk(41), -1, 2);
        CHECK.due("the tape stays", x.size(0), 40);
        CHECK.due("desk(MIN)", x, x.desk(Integer.MIN_VALUE), -1, 2);
        CHECK.due("desk(MAX)", x, x.desk(Integer.MAX_VALUE), -1, 2);
        CHECK.due("no fault by 2", x.fault(), 0);
        CHECK.due("desk", x, x.desk(n), 0, 0);
        CHECK.due("the tape is empty", x.size(0), 0);
        CHECK.due("desk(0) of an empty tape", x, x.desk(0), -1, 4);
        Check.feed(x, DESK);
        CHECK.due("desk(0) of a tape", x, x.desk(0), -1, 4);
        CHECK.due("where() of desk(0)", x.where(), 0);
        CHECK.due("the tape is empty behind a fault", x.size(0), 0);
    }

    private static void deskStartsAnew() {
        OuterRows x = Check.deskOf("desk full keep 9 late 2;put left a v at 5;tick 30;put left b w at 31;put left b w at 1");
        x.begin(0);
        x.keep();
        CHECK.due("a new desk", x, Check.desk(x, "desk left keep 7 late 3;put left c u by 4 at 1"), 1, 0);
        int[] due = {1, 7, 3, 1, 1, 1, 1, 1, 0, 0};
        for (int what = 0; what < due.length; what++) {
            CHECK.due("about(" + what + ") anew", x.about(what), due[what]);
        }
        CHECK.due("rows anew", Check.rows(x), "c:u|-*4");
        CHECK.due("log anew", Check.log(x), "0,0,-2,4@1");
        CHECK.due("nothing is kept", x.size(3), 0);
        CHECK.due("back() anew", x.back(), false);
        CHECK.due("trouble() of it", x.trouble(), 1);
        CHECK.due("none has begun", x.size(4), 0);
        CHECK.due("the store anew", x.size(2), 1);
        CHECK.due("pull(0) anew", x, x.pull(0), -1, 1);
        CHECK.due("traffic(0) anew", x.traffic(0), 4);
        CHECK.due("flips anew", x.flips(0, 0), 1);
        CHECK.due("lapses anew", x.key(0, 3), 0);
        CHECK.due("dearest anew", x.dearest(), 1);
    }

    private static void deskFaultStays() {
        OuterRows x = Check.deskOf("desk full keep 9 late 2;put left a v at 5");
        x.begin(2);
        x.keep();
        CHECK.dueFault("desk odd", x, Check.desk(x, "desk odd"), 1, 5);
        CHECK.due("the desk stays", Check.rows(x), "a:v|-*1");
        CHECK.due("what was kept stays", x.size(3), 1);
        CHECK.due("who has begun stays", x.size(4), 1);
    }

    private static void moreRefusals() {
        OuterRows x = new OuterRows();
        Check.feed(x, "tick 5");
        CHECK.due("more(99) without a desk", x, x.more(99), -1, 1);
        CHECK.due("the tape stays", x.size(0), 20);
        CHECK.due("fault() of it", x.fault(), 0);
        x = Check.deskOf(DESK);
        Check.feed(x, "tick 5");
        CHECK.due("more(21)", x, x.more(21), -1, 2);
        CHECK.due("more(-1)", x, x.more(-1), -1, 2);
        CHECK.due("the tape stays by 2", x.size(0), 20);
        CHECK.due("more(6)", x, x.more(6), 0, 0);
        CHECK.due("the tape is empty", x.size(0), 0);
        CHECK.due("clock", x.about(5), 5);
        CHECK.due("changes of more only", Check.more(x, "put left a v at 6;put right a w by 2 at 6;back left a v at 7"), 2);
        CHECK.due("more(0)", x, x.more(0), -1, 4);
        CHECK.due("fault() of more(0)", x.fault(), 1);
        CHECK.due("where() of more(0)", x.where(), 0);
    }

    private static void moreFaultStays() {
        OuterRows x = Check.deskOf("desk full keep 9 late 2;put left a v at 5");
        String text = "put left b w at 6;tick 9;put right c";
        CHECK.dueFault(text, x, Check.more(x, text), 1, text.length());
        CHECK.due("KEYS stay", x.about(3), 1);
        CHECK.due("VALUES stay", x.about(4), 1);
        CHECK.due("CLOCK stays", x.about(5), 5);
        CHECK.due("the tape is empty", x.size(0), 0);
        CHECK.due("the next KEY", Check.more(x, "put left d u at 6"), 1);
        CHECK.due("its letter", x.letter(0, 1, 0), 'd');
    }

    private static void cutTexts() {
        // what stands on the tape behind the first n bytes is no part of the text
        OuterRows x = Check.deskOf(DESK);
        Check.feed(x, "tick 1234");
        CHECK.due("tick 12, cut", x, x.more(7), 0, 0);
        CHECK.due("clock", x.about(5), 12);
        Check.feed(x, "tick 12345");
        CHECK.due("tick 1234, cut", x, x.more(9), 0, 0);
        CHECK.due("clock", x.about(5), 1234);
        Check.feed(x, "ticks");
        CHECK.due("tick, cut", x, x.more(4), -1, 4);
        CHECK.due("where()", x.where(), 4);
        Check.feed(x, "tick ;tick 1");
        CHECK.due("tick and a blank, cut", x, x.more(5), -1, 4);
        CHECK.due("where()", x.where(), 5);
        Check.feed(x, "tick 1235;desk");
        CHECK.due("a LINE, cut", x, x.more(9), 0, 0);
        CHECK.due("the tape is empty", x.size(0), 0);
    }

    private static void tokens() {
        OuterRows x = new OuterRows();
        CHECK.due("no blanks needed", Check.desk(x, "desk left keep5late0;put left a b by2at1;tick3"), 1);
        CHECK.due("clock", x.about(5), 3);
        CHECK.due("many blanks", Check.desk(x, "   desk   full keep   0005 late 000 ; tick  0012   "), 0);
        CHECK.due("keep", x.about(1), 5);
        CHECK.due("clock", x.about(5), 12);
        CHECK.due("other words are names", Check.desk(x, "desk full keep 1 late 1;put left left right at 1;put left keep late at 1;put right inner full at 1"), 3);
        CHECK.due("rows", Check.rows(x), "left:right|-*1 keep:late|-*1 inner:-|full*1");
        CHECK.due("five letters", Check.more(x, "put left abcde vwxyz at 1"), 1);
        CHECK.due("bounds", Check.more(x, "put left a b by 1 at 0;put left a b by 9 at 9999"), 2);
        CHECK.due("desk bounds", Check.desk(x, "desk full keep 999 late 999"), 0);
        CHECK.due("desk bounds", Check.desk(x, "desk full keep 1 late 0"), 0);
        CHECK.due("how", Check.desk(x, "desk right keep 1 late 0"), 0);
        CHECK.due("right", x.about(0), 2);
    }

    private static void dueFault(String text, int fault, int where) {
        OuterRows x = new OuterRows();
        CHECK.dueFault(text, x, Check.desk(x, text), fault, where);
        CHECK.due("no desk by '" + text + "'", x.about(0), -1);
    }

    private static void dueLineFault(String line, int fault, int where) {
        dueFault(DESK + ";" + line, fault, DESK.length() + 1 + where);
        OuterRows x = Check.deskOf(DESK);
        CHECK.dueFault(line, x, Check.more(x, line), fault, where);
    }

    private static void formFaults() {
        dueFault("", 1, 0);
        dueFault("   ", 1, 3);
        dueFault(";", 1, 0);
        dueFault("5", 1, 0);
        dueFault("desks", 1, 0);
        dueFault("Desk", 1, 0);
        dueFault("desk", 1, 4);
        dueFault("desk  ", 1, 6);
        dueFault("desk outer keep 5 late 0", 1, 5);
        dueFault("desk inners keep 5 late 0", 1, 5);
        dueFault("desk 5", 1, 5);
        dueFault("desk inner late 5", 1, 11);
        dueFault("desk inner keep late", 1, 16);
        dueFault("desk inner keep 10000 late 0", 1, 16);
        dueFault("desk inner keep 5 keep", 1, 18);
        dueFault("desk inner keep 5 late", 1, 22);
        dueFault("desk inner keep 5 late 0;", 1, 25);
        dueFault("desk inner keep 5 late 0 ; ; tick 1", 1, 27);
        dueFault("desk inner keep 5 late 0 tick 1", 1, 25);
        dueFault("desk inner keep 5 late 0, tick 1", 1, 24);
        dueFault("desk inner keep 5 late 0 1", 1, 25);
        dueLineFault("go left a b at 1", 1, 0);
        dueLineFault("put", 1, 3);
        dueLineFault("put inner a b at 1", 1, 4);
        dueLineFault("put a b at 1", 1, 4);
        dueLineFault("put left 1 b at 1", 1, 9);
        dueLineFault("put left a 1 at 1", 1, 11);
        dueLineFault("put left a ; at 1", 1, 11);
        dueLineFault("put left abcdef b at 1", 1, 9);
        dueLineFault("put left a bcdefg at 1", 1, 11);
        for (String word : new String[] {"desk", "put", "back", "tick", "by", "at"}) {
            dueLineFault("put left " + word + " b at 1", 1, 9);
            dueLineFault("back right a " + word + " at 1", 1, 13);
        }
        dueLineFault("put left a b c at 1", 1, 13);
        dueLineFault("put left a b at", 1, 15);
        dueLineFault("put left a b at x", 1, 16);
        dueLineFault("put left a b at 1 by 2", 1, 18);
        dueLineFault("put left a b by at 1", 1, 16);
        dueLineFault("put left a b by 2 by 2 at 1", 1, 18);
        dueLineFault("put left a b by 2", 1, 17);
        dueLineFault("put left a b by 20000 at 1", 1, 16);
        dueLineFault("put left a b at 12345", 1, 16);
        dueLineFault("tick", 1, 4);
        dueLineFault("tick at 1", 1, 5);
        dueLineFault("tick 10000", 1, 5);
        dueLineFault("tick 1 2", 1, 7);
        dueLineFault("tick -1", 1, 5);
        dueLineFault("tick 1;tock 2", 1, 7);
        dueLineFault("tick\t1", 1, 4);
    }

    private static void boundFaults() {
        dueFault("desk inner keep 0 late 0", 2, 16);
        dueFault("desk inner keep 1000 late 0", 2, 16);
        dueFault("desk inner keep 0000", 2, 16);
        dueFault("desk inner keep 5 late 1000", 2, 23);
        dueFault("desk inner keep 5 late 9999 x", 2, 23);
        dueLineFault("put left a b by 0 at 1", 2, 16);
        dueLineFault("put left a b by 10 at 1", 2, 16);
        dueLineFault("back right a b by 9999 at 1", 2, 18);
    }

    private static void againFaults() {
        dueFault("desk inner keep 5 late 0;desk inner keep 5 late 0", 3, 25);
        dueFault("desk inner keep 5 late 0;tick 1; desk", 3, 33);
        OuterRows x = Check.deskOf(DESK);
        CHECK.dueFault(DESK, x, Check.more(x, DESK), 3, 0);
        CHECK.dueFault("desk at the end", x, Check.more(x, "tick 1; desk"), 3, 8);
    }

    private static String lines(int count, String line) {
        StringBuilder all = new StringBuilder();
        for (int i = 0; i < count; i++) {
            all.append(i == 0 ? "" : ";").append(line);
        }
        return all.toString();
    }

    private static void manyFaults() {
        String keys = "";
        String values = "";
        for (char c = 'a'; c <= 'h'; c++) {
            keys += ";put left " + c + " v at 1";
            values += ";put left k " + c + " at 1";
        }
        OuterRows x = new OuterRows();
        CHECK.due("eight KEYS", Check.desk(x, DESK + keys), 0);
        CHECK.due("eight VALUES", Check.desk(x, DESK + values), 0);
        CHECK.due("one of them again", Check.desk(x, DESK + keys + ";put right h v at 1"), 1);
        dueFault(DESK + keys + ";put left i v at 1", 4, DESK.length() + keys.length() + 10);
        dueFault(DESK + values + ";put left k i at 1", 4, DESK.length() + values.length() + 12);
        dueFault(DESK + values + ";put left kk i at 1", 4, DESK.length() + values.length() + 13);
        dueFault(DESK + keys + ";put left at v at 1", 1, DESK.length() + keys.length() + 10);
        String forty = DESK + ";" + lines(40, "tick 1");
        CHECK.due("forty LINES", Check.desk(x, forty), 0);
        dueFault(forty + ";tick 1", 4, forty.length() + 1);
        dueFault(forty + ";tick", 4, forty.length() + 1);
        dueFault(forty + "; put left", 4, forty.length() + 2);
        dueFault(forty + ";back", 4, forty.length() + 1);
        dueFault(forty + ";by", 1, forty.length() + 1);
        dueFault(forty + ";desk", 3, forty.length() + 1);
        dueFault(forty + ";", 1, forty.length() + 1);
    }

    private static void manyFaultsOfMore() {
        OuterRows x = Check.deskOf(DESK + ";put left a v at 1;put left b v at 1;put left c v at 1");
        String forty = lines(40, "tick 1");
        CHECK.due("forty LINES of more", Check.more(x, forty), 0);
        CHECK.due("forty LINES of more, again", Check.more(x, forty), 0);
        CHECK.dueFault("a 41st LINE of more", x, Check.more(x, forty + ";tick 1"), 4, forty.length() + 1);
        String five = "put left d v at 1;put left e v at 1;put left f v at 1;put left g v at 1;put left h v at 1";
        String nine = five + ";put left b w at 1;put left i v at 1";
        CHECK.dueFault("a ninth KEY of more", x, Check.more(x, nine), 4, five.length() + 28);
        CHECK.due("KEYS stay", x.about(3), 3);
        CHECK.due("eight KEYS with more", Check.more(x, five), 0);
        CHECK.due("eight KEYS", x.about(3), 8);
        CHECK.dueFault("a ninth KEY behind it", x, Check.more(x, "put left z v at 1"), 4, 9);
    }

    private static void lackFaults() {
        dueFault("tick 1", 5, 0);
        dueFault("  put left a b at 1;desk inner keep 5 late 0", 5, 2);
        dueFault("back", 5, 0);
        dueFault("tick x", 5, 0);
    }

    private static void firstFaultCounts() {
        dueLineFault("put left a b by 0 at x", 2, 16);
        dueLineFault("put left a b by 0 %", 2, 16);
        dueLineFault("tick 1;put left a b by 12;desk", 2, 23);
        dueLineFault("% put left a b by 12;desk", 1, 0);
        dueFault("tick 1; %", 5, 0);
    }

    private static void faultAndWhere() {
        OuterRows x = new OuterRows();
        CHECK.dueFault("desk odd", x, Check.desk(x, "desk odd"), 1, 5);
        x.size(0);
        x.feed(0, 0, 0, 0, 0);
        CHECK.dueNoSingle(x, 0);
        CHECK.due("where() stays with calls that are never refused", x.where(), 5);
        x.about(0);
        CHECK.due("where() behind another refusal", x.where(), -1);
        CHECK.due("fault() stays", x.fault(), 1);
        x.desk(21);
        CHECK.due("fault() stays with a refusal by 2", x.fault(), 1);
        CHECK.due("where() behind a refusal by 2", x.where(), -1);
        x.more(0);
        CHECK.due("fault() stays with a refusal by 1", x.fault(), 1);
        x.desk(20);
        CHECK.due("a byte that begins no TOKEN", x.where(), 0);
        Check.desk(x, DESK);
        CHECK.due("fault() without one", x.fault(), 0);
        CHECK.due("where() without one", x.where(), -1);
        Check.more(x, "tick 1;desk");
        CHECK.due("fault() of more", x.fault(), 3);
        Check.more(x, "tick 1");
        CHECK.due("fault() of a sound more", x.fault(), 0);
    }

    private static void aboutAll() {
        OuterRows x = Check.deskOf("desk full keep 4 late 6;put left a v at 9;put right b w at 3;put left c u at 2;tick 20");
        int[] due = {3, 4, 6, 3, 3, 20, 0, 2, 1, 2};
        for (int what = 0; what < due.length; what++) {
            CHECK.due("about(" + what + ")", x, x.about(what), due[what], 0);
        }
        CHECK.due("about(-1)", x, x.about(-1), -1, 1);
        CHECK.due("about(10)", x, x.about(10), -1, 1);
        x.how(0);
        x.event(0, 0, 0, 1, 20);
        CHECK.due("about(0) behind how(0)", x.about(0), 0);
        CHECK.due("about(6)", x.about(6), 1);
        CHECK.due("about(7) counts exchanges", x.about(7), 4);
        x.bounds(999, 0);
        CHECK.due("about(1) behind bounds", x.about(1), 999);
        CHECK.due("about(2) behind bounds", x.about(2), 0);
    }

    private static void letters() {
        OuterRows x = Check.deskOf("desk full keep 4 late 6;put left abcde v at 9;put right k vw at 9");
        for (int i = 0; i < 5; i++) {
            CHECK.due("letter(0, 0, " + i + ")", x, x.letter(0, 0, i), 'a' + i, 0);
        }
        CHECK.due("letter(0, 0, 5)", x, x.letter(0, 0, 5), 0, 0);
        CHECK.due("letter(0, 0, 8)", x, x.letter(0, 0, 8), 0, 0);
        CHECK.due("letter(0, 0, MAX)", x, x.letter(0, 0, Integer.MAX_VALUE), 0, 0);
        CHECK.due("letter(1, 1, 1)", x, x.letter(1, 1, 1), 'w', 0);
        CHECK.due("letter(1, 1, 2)", x, x.letter(1, 1, 2), 0, 0);
        CHECK.due("letter(1, 0, 0)", x, x.letter(1, 0, 0), 'v', 0);
        CHECK.due("letter(0, 2, 0)", x, x.letter(0, 2, 0), -1, 1);
        CHECK.due("letter(0, -1, 0)", x, x.letter(0, -1, 0), -1, 1);
        CHECK.due("letter(2, 0, 0)", x, x.letter(2, 0, 0), -1, 1);
        CHECK.due("letter(-1, 0, 0)", x, x.letter(-1, 0, 0), -1, 1);
        CHECK.due("letter(0, 0, -1)", x, x.letter(0, 0, -1), -1, 1);
    }

    private static void lateWordsAreNamed() {
        OuterRows x = Check.deskOf("desk full keep 4 late 1;tick 9;put left a v at 7");
        CHECK.due("too late", x.about(8), 1);
        CHECK.due("its KEY", x.about(3), 1);
        CHECK.due("its VALUE", x.about(4), 1);
        CHECK.due("it doesn't live", x.key(0, 0), 0);
    }
}
