/** A DESK with all the KEYS, VALUES and rows that there is room for. */
final class Full {
    /** A row is left by right, with none behind the eight VALUES: but for none by none. */
    static final int ROWS_OF_KEY = 9 * 9 - 1;
    static final int ROWS = 8 * ROWS_OF_KEY;

    private Full() {
    }

    /** KEYS a to h, VALUES s to z, named by EVENTS that were TOO LATE: nothing is there, CLOCK is 1. */
    static OuterRows ofNames() {
        StringBuilder text = new StringBuilder("desk full keep 1 late 0;tick 1");
        for (int i = 0; i < 8; i++) {
            text.append(";put left ").append((char) ('a' + i)).append(' ').append((char) ('s' + i)).append(" at 0");
        }
        OuterRows x = Check.deskOf(text.toString());
        x.bounds(1, 999);
        return x;
    }

    private static void putAll(OuterRows x, int side, int time) {
        for (int i = 0; i < 64; i++) {
            x.event(side, i / 8, i % 8, 1, time);
        }
    }

    /** All rows are sent once each: left ones alone, a LAPSE, right ones alone, a LAPSE, then both. */
    static void sendAllRows(OuterRows x) {
        putAll(x, 0, 1);
        x.tick(3);
        putAll(x, 1, 3);
        x.tick(5);
        x.how(0);
        putAll(x, 0, 5);
        putAll(x, 1, 5);
    }

    static OuterRows ofRows() {
        OuterRows x = ofNames();
        sendAllRows(x);
        return x;
    }
}
