import java.util.Arrays;

/** Terms I, THE TAPE and its TOKENS, and promise 2: each sentence at its bounds. */
public final class EdgeTokenTest {
    private static final Check CHECK = new Check("EdgeTokenTest");
    private static final Lines LINES = new Lines(CHECK);
    private static final int BLANKS = 0x20202020;

    public static void main(String[] args) {
        twentyBytesEachAtItsPlace();
        bytesOfBothSigns();
        tapeFillsToItsLastByte();
        fullTapeStaysAsItIs();
        textOfAllTheTape();
        moreOfAllTheTape();
        oneByteTexts();
        bytesOfWords();
        bytesOfWholes();
        bytesBetweenLines();
        bytesBetweenTokens();
        wordsOfOneToFive();
        wholesOfOneToFour();
        blanksMeanNothingElse();
        blanksPartTokens();
        kindsPartThemselves();
        semicolonsAreSingle();
        CHECK.end();
    }

    private static int feedBytes(OuterRows x, int[] bytes) {
        int[] numbers = new int[5];
        for (int i = 0; i < 20; i++) {
            numbers[i / 4] = numbers[i / 4] << 8 | bytes[i] & 255;
        }
        return x.feed(numbers[0], numbers[1], numbers[2], numbers[3], numbers[4]);
    }

    private static void twentyBytesEachAtItsPlace() {
        CHECK.says("Twenty bytes come behind THE TAPE, of each number the highest first");
        for (int place = 0; place < 20; place++) {
            int[] bytes = new int[20];
            Arrays.fill(bytes, ' ');
            bytes[place] = '%';
            OuterRows x = Check.deskOf(Lines.DESK);
            CHECK.due("feed", feedBytes(x, bytes), 20);
            x.more(20);
            CHECK.due("where() of byte " + place, x.where(), place);
        }
        OuterRows x = Check.deskOf(Lines.DESK);
        x.feed(BLANKS, BLANKS, BLANKS, BLANKS, BLANKS);
        CHECK.due("feed behind others", x.feed('%' << 24 | 0x202020, BLANKS, BLANKS, BLANKS, BLANKS), 40);
        x.more(40);
        CHECK.due("where() behind others", x.where(), 20);
    }

    private static void bytesOfBothSigns() {
        CHECK.says("the first byte that begins no TOKEN");
        int[] numbers = {0, -1, Integer.MIN_VALUE, Integer.MAX_VALUE, 0xe1e1e1e1};
        for (int number : numbers) {
            OuterRows x = Check.deskOf(Lines.DESK);
            x.feed(BLANKS, number, number, number, number);
            CHECK.dueFault("bytes of " + number, x, x.more(20), 1, 4);
        }
    }

    private static void tapeFillsToItsLastByte() {
        CHECK.says("NONE, and none comes, if there would be more than 900");
        OuterRows x = new OuterRows();
        CHECK.due("size(0) at first", x.size(0), 0);
        for (int i = 1; i <= 45; i++) {
            CHECK.due("feed " + i, x.feed(0, 0, 0, 0, 0), 20 * i);
            CHECK.due("size(0) " + i, x.size(0), 20 * i);
        }
        CHECK.due("feed 46", x.feed(0, 0, 0, 0, 0), OuterRows.NONE);
        CHECK.due("size(0) of a full one", x.size(0), 900);
        CHECK.due("feed 47", x.feed(0, 0, 0, 0, 0), OuterRows.NONE);
        CHECK.due("size(0) still", x.size(0), 900);
        CHECK.due("trouble() of feed", x.trouble(), 0);
    }

    private static void fullTapeStaysAsItIs() {
        CHECK.says("NONE, and none comes");
        OuterRows x = new OuterRows();
        Check.feed(x, padded(Lines.DESK, ";tick 77"));
        CHECK.due("feed of a full one", x.feed(0, 0, 0, 0, 0), OuterRows.NONE);
        CHECK.due("the text is as it was", x, x.desk(900), 0, 0);
        CHECK.due("to its last byte", x.about(5), 77);
        CHECK.due("feed behind it", x.feed(0, 0, 0, 0, 0), 20);
    }

    /** A text of 900 bytes, blanks in the middle. */
    private static String padded(String ahead, String behind) {
        return ahead + " ".repeat(900 - ahead.length() - behind.length()) + behind;
    }

    private static void textOfAllTheTape() {
        CHECK.says("THE TAPE has 900 bytes");
        OuterRows x = new OuterRows();
        Check.feed(x, padded(Lines.DESK, ";tick 77"));
        CHECK.due("desk(900)", x, x.desk(900), 0, 0);
        CHECK.due("CLOCK", x.about(5), 77);
        Check.feed(x, padded(Lines.DESK, ";tick 77"));
        CHECK.due("desk(899)", x, x.desk(899), 0, 0);
        CHECK.due("CLOCK without the last byte", x.about(5), 7);
        Check.feed(x, padded(Lines.DESK, ";tick"));
        CHECK.dueFault("an end at 900", x, x.desk(900), 1, 900);
        Check.feed(x, padded(Lines.DESK, "%"));
        CHECK.dueFault("a last byte that begins no TOKEN", x, x.desk(900), 1, 899);
        Check.feed(x, " ".repeat(900));
        CHECK.dueFault("blanks alone", x, x.desk(900), 1, 900);
    }

    private static void moreOfAllTheTape() {
        CHECK.says("THE TAPE has 900 bytes");
        OuterRows x = Check.deskOf(Lines.DESK);
        Check.feed(x, padded("", "tick 12"));
        CHECK.due("more(900)", x, x.more(900), 0, 0);
        CHECK.due("CLOCK", x.about(5), 12);
        Check.feed(x, padded("", "desk"));
        CHECK.dueFault("a desk at the end", x, x.more(900), 3, 896);
    }

    private static void oneByteTexts() {
        CHECK.says("the first byte that begins no TOKEN, or TOKEN with which no TEXT goes on (the end: its place)");
        OuterRows x = Check.deskOf(Lines.DESK);
        for (int b = 0; b < 256; b++) {
            x.feed(b << 24 | 0x202020, BLANKS, BLANKS, BLANKS, BLANKS);
            CHECK.dueFault("byte " + b, x, x.more(1), 1, b == ' ' ? 1 : 0);
        }
    }

    private static void dueByByte(String ahead, String behind, char least, char most) {
        OuterRows x = Check.deskOf("desk full keep 9 late 999");
        for (int b = 0; b < 256; b++) {
            String text = ahead + (char) b + behind;
            x.keep();
            int sent = Check.more(x, text);
            boolean isSound = b >= least && b <= most;
            CHECK.due("'" + text + "' with byte " + b, sent == OuterRows.NONE, !isSound);
            CHECK.due("fault() with byte " + b, x.fault(), isSound ? 0 : 1);
            x.back();
        }
    }

    private static void bytesOfWords() {
        CHECK.says("small letters");
        dueByByte("put left ", " v at 1", 'a', 'z');
        dueByByte("put left a", "b v at 1", 'a', 'z');
        dueByByte("put left k ", "at at 1", 'a', 'z');
    }

    private static void bytesOfWholes() {
        CHECK.says("digits");
        dueByByte("tick ", "", '0', '9');
        dueByByte("tick 1", "1", '0', '9');
    }

    private static void bytesBetweenLines() {
        CHECK.says("single ones of ;");
        dueByByte("tick 1 ", " tick 2", ';', ';');
        dueByByte("tick 1", "tick 2", ';', ';');
    }

    private static void bytesBetweenTokens() {
        CHECK.says("blanks, 32, part TOKENS");
        dueByByte("put left k", "v at 1", ' ', ' ');
        dueByByte("put left", "k v at 1", ' ', ' ');
    }

    private static void wordsOfOneToFive() {
        CHECK.says("WORDS of 1 to 5 small letters that stand together");
        for (int length = 1; length <= 12; length++) {
            String word = "abcdefghijkl".substring(0, length);
            if (length <= 5) {
                OuterRows x = LINES.sound("put left " + word + " v at 1;put right k " + word + " at 1");
                CHECK.due("last letter of a KEY", x.letter(0, 0, length - 1), word.charAt(length - 1));
                CHECK.due("last letter of a VALUE", x.letter(1, 1, length - 1), word.charAt(length - 1));
            } else {
                LINES.faulty("put left " + word + " v at 1", 1, 9);
                LINES.faulty("put left k " + word + " at 1", 1, 11);
            }
        }
        LINES.deskFaulty("deskkk full keep 9 late 9", 1, 0);
        LINES.faulty("put lefttt k v at 1", 1, 4);
    }

    private static void wholesOfOneToFour() {
        CHECK.says("WHOLES of 1 to 4 digits that do");
        String[] sound = {"0", "7", "07", "007", "0007", "0000", "9999"};
        for (String whole : sound) {
            OuterRows x = LINES.sound("tick " + whole);
            CHECK.due("CLOCK by " + whole, x.about(5), Integer.parseInt(whole));
        }
        String[] faulty = {"00000", "00001", "10000", "99999", "000000000000"};
        for (String whole : faulty) {
            LINES.faulty("tick " + whole, 1, 5);
            LINES.faulty("put left k v by " + whole + " at 1", 1, 16);
            LINES.faulty("put left k v at " + whole, 1, 16);
            LINES.deskFaulty("desk full keep " + whole + " late 9", 1, 15);
            LINES.deskFaulty("desk full keep 9 late " + whole, 1, 22);
        }
    }

    private static void blanksMeanNothingElse() {
        CHECK.says("blanks, 32, part TOKENS and mean nothing else");
        OuterRows x = LINES.sound("   put   left  k   v   by  2  at   1   ;   tick   5   ");
        CHECK.due("rows", Check.rows(x), "k:v|-*2");
        CHECK.due("CLOCK", x.about(5), 5);
        CHECK.due("a desk behind blanks", Check.desk(x, "     " + Lines.DESK + "     "), 0);
    }

    private static void blanksPartTokens() {
        CHECK.says("blanks, 32, part TOKENS");
        LINES.faulty("ti ck 5", 1, 0);
        LINES.faulty("tick 1 2", 1, 7);
        LINES.faulty("put left k v w at 1", 1, 13);
        OuterRows x = LINES.sound("put left k v at 1;put left kv v at 1");
        CHECK.due("'k' and 'kv' are two KEYS", x.about(3), 2);
    }

    private static void kindsPartThemselves() {
        CHECK.says("letters that stand together, digits that do");
        OuterRows x = LINES.sound("put left k v by2at1;tick5;tick6");
        CHECK.due("CLOCK", x.about(5), 6);
        CHECK.due("rows", Check.rows(x), "k:v|-*2");
        LINES.faulty("putleft k v at 1", 1, 0);
        LINES.faulty("put leftk v at 1", 1, 4);
        LINES.faulty("put left k1 v at 1", 1, 10);
        LINES.faulty("tick1a", 1, 5);
    }

    private static void semicolonsAreSingle() {
        CHECK.says("LINE {; LINE}");
        LINES.sound("tick 1");
        LINES.sound("tick 1;tick 2");
        LINES.faulty("tick 1;;tick 2", 1, 7);
        LINES.faulty("tick 1; ;tick 2", 1, 8);
        LINES.faulty("tick 1;", 1, 7);
        LINES.faulty("tick 1;  ", 1, 9);
        LINES.faulty(";tick 1", 1, 0);
        LINES.faulty("tick 1 tick 2", 1, 7);
        LINES.deskFaulty(Lines.DESK + ";", 1, Lines.DESK.length() + 1);
        LINES.deskFaulty(";" + Lines.DESK, 1, 0);
    }
}
