import java.util.NoSuchElementException;

/** What all tests use: desks made from texts, answers compared and counted. */
final class Check {
    static final int MIN = Integer.MIN_VALUE;

    private final String name;
    private String sentence = "";
    private int calls = 0;
    private int wrong = 0;

    Check(String name) {
        this.name = name;
    }

    /** The sentence of the document that the answers from here on are of: told with a wrong one. */
    void says(String ofTheDocument) {
        sentence = " [" + ofTheDocument + "]";
    }

    private void tellWrong(String what, String got, String want) {
        wrong++;
        System.out.println(name + sentence + ": " + what + " answered " + got + ", due is " + want);
    }

    void due(String what, long got, long want) {
        calls++;
        if (got != want) {
            tellWrong(what, Long.toString(got), Long.toString(want));
        }
    }

    void due(String what, String got, String want) {
        calls++;
        if (!got.equals(want)) {
            tellWrong(what, got, want);
        }
    }

    void due(String what, boolean got, boolean want) {
        due(what, got ? 1 : 0, want ? 1 : 0);
    }

    /** An answer with TROUBLE behind it. */
    void due(String what, OuterRows x, long got, long want, int trouble) {
        due(what, got, want);
        due("trouble() behind " + what, x.trouble(), trouble);
    }

    void dueFault(String text, OuterRows x, int got, int fault, int where) {
        due("'" + text + "'", got, OuterRows.NONE);
        due("trouble() of '" + text + "'", x.trouble(), 4);
        due("fault() of '" + text + "'", x.fault(), fault);
        due("where() of '" + text + "'", x.where(), where);
    }

    void dueNoSingle(OuterRows x, int i) {
        boolean thrown = false;
        try {
            x.single(i);
        } catch (NoSuchElementException e) {
            thrown = true;
        }
        due("single(" + i + ") throws", thrown, true);
    }

    /** The KEYS that single() answers, one digit each. */
    static String singles(OuterRows x) {
        StringBuilder all = new StringBuilder();
        try {
            for (int i = 0; i < 8; i++) {
                all.append(x.single(i));
            }
        } catch (NoSuchElementException e) {
            return all.toString();
        }
        return all.toString();
    }

    int wrong() {
        return wrong;
    }

    void end() {
        System.out.println(name + ": " + calls + " answers, " + wrong + " not as due");
        if (wrong != 0) {
            System.exit(1);
        }
    }

    /** Feeds a text with blanks behind it up to the next twenty bytes: how many bytes it has. */
    static int feed(OuterRows x, String text) {
        for (int at = 0; at < text.length(); at += 20) {
            int[] numbers = new int[5];
            for (int i = 0; i < 20; i++) {
                int b = at + i < text.length() ? text.charAt(at + i) : ' ';
                numbers[i / 4] = numbers[i / 4] << 8 | b & 255;
            }
            x.feed(numbers[0], numbers[1], numbers[2], numbers[3], numbers[4]);
        }
        return text.length();
    }

    static int desk(OuterRows x, String text) {
        return x.desk(feed(x, text));
    }

    static int more(OuterRows x, String text) {
        return x.more(feed(x, text));
    }

    static OuterRows deskOf(String text) {
        OuterRows x = new OuterRows();
        if (desk(x, text) == OuterRows.NONE) {
            throw new IllegalStateException("fault " + x.fault() + " at " + x.where() + " of " + text);
        }
        return x;
    }

    /** The texts of all rows, blanks between them. */
    static String rows(OuterRows x) {
        StringBuilder all = new StringBuilder();
        for (int i = 0; i < x.rows(); i++) {
            all.append(i == 0 ? "" : " ");
            for (int j = 0; x.spell(i, j) != OuterRows.NONE; j++) {
                all.append((char) x.spell(i, j));
            }
        }
        return all.toString();
    }

    /** All CHANGES of THE LOG, the oldest first: KEY,left,right,how many@number, -2 as none. */
    static String log(OuterRows x) {
        StringBuilder all = new StringBuilder();
        for (int i = x.size(1) - 1; i >= 0; i--) {
            all.append(all.length() == 0 ? "" : " ");
            all.append(x.log(i, 0)).append(',').append(x.log(i, 1)).append(',').append(x.log(i, 2));
            all.append(',').append(x.log(i, 3)).append('@').append(x.log(i, 4));
        }
        return all.toString();
    }

    static String differences(OuterRows x, int who) {
        StringBuilder all = new StringBuilder();
        for (int i = 0; x.pulled(who, i, 0) != MIN; i++) {
            all.append(i == 0 ? "" : " ");
            all.append(x.pulled(who, i, 0)).append(',').append(x.pulled(who, i, 1)).append(',');
            all.append(x.pulled(who, i, 2)).append(',').append(x.pulled(who, i, 3));
        }
        return all.toString();
    }
}
