/** LINES told behind a desk's and as MORE: sound both times, or of the same FAULT both times. */
final class Lines {
    static final String DESK = "desk full keep 9 late 9";

    private final Check check;

    Lines(Check check) {
        this.check = check;
    }

    static String times(int count, String line) {
        StringBuilder all = new StringBuilder();
        for (int i = 0; i < count; i++) {
            all.append(i == 0 ? "" : ";").append(line);
        }
        return all.toString();
    }

    /** Tells sound LINES both ways: the object to which they came as MORE. */
    OuterRows sound(String lines) {
        OuterRows desk = new OuterRows();
        int sent = Check.desk(desk, DESK + ";" + lines);
        dueSound(lines, desk, sent);
        OuterRows x = Check.deskOf(DESK);
        check.due("'" + lines + "' as MORE, of as many CHANGES", Check.more(x, lines), sent);
        dueSound(lines, x, sent);
        check.due("'" + lines + "' as MORE, rows", Check.rows(x), Check.rows(desk));
        return x;
    }

    private void dueSound(String lines, OuterRows x, int sent) {
        check.due("'" + lines + "' is sound", sent != OuterRows.NONE, true);
        check.due("trouble() of '" + lines + "'", x.trouble(), 0);
        check.due("fault() of '" + lines + "'", x.fault(), 0);
        check.due("where() of '" + lines + "'", x.where(), OuterRows.NONE);
    }

    void faulty(String lines, int fault, int where) {
        deskFaulty(DESK + ";" + lines, fault, DESK.length() + 1 + where);
        moreFaulty(lines, fault, where);
    }

    void moreFaulty(String lines, int fault, int where) {
        OuterRows x = Check.deskOf(DESK);
        check.dueFault(lines, x, Check.more(x, lines), fault, where);
    }

    void deskFaulty(String text, int fault, int where) {
        OuterRows x = new OuterRows();
        check.dueFault(text, x, Check.desk(x, text), fault, where);
        check.due("a DESK by '" + text + "'", x.about(0), OuterRows.NONE);
    }
}
