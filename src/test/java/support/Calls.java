/** Each call that may be refused, with numbers by which it isn't: of a DESK with a KEY, a VALUE and SUBSCRIBER 0. */
final class Calls {
    static final String[] NAMES = {"desk", "more", "about", "letter", "net", "there", "key", "debts", "sent", "join", "closed", "rows", "row",
        "spell", "traffic", "log", "flips", "busiest", "dearest", "begin", "pull", "pulled", "held", "lag", "would", "nextLapse", "replay",
        "cost", "event", "tick", "how", "bounds", "keep", "back"};
    static final int COUNT = NAMES.length;

    private Calls() {
    }

    static long sound(OuterRows x, int call) {
        switch (NAMES[call]) {
            case "desk": return Check.desk(x, Lines.DESK);
            case "more": return Check.more(x, "tick 2");
            case "about": return x.about(0);
            case "letter": return x.letter(0, 0, 0);
            case "net": return x.net(0, 0, 0);
            case "there": return x.there(0, 0);
            case "key": return x.key(0, 0);
            case "debts": return x.debts(0);
            case "sent": return x.sent(0, 0, 0);
            case "join": return x.join(0, 0, 0);
            case "closed": return x.closed(0, 0, 0);
            case "rows": return x.rows();
            case "row": return x.row(0, 0);
            case "spell": return x.spell(0, 0);
            case "traffic": return x.traffic(0);
            case "log": return x.log(0, 0);
            case "flips": return x.flips(0, 0);
            case "busiest": return x.busiest();
            case "dearest": return x.dearest();
            default: return soundOfOthers(x, call);
        }
    }

    private static long soundOfOthers(OuterRows x, int call) {
        switch (NAMES[call]) {
            case "begin": return x.begin(0);
            case "pull": return x.pull(0);
            case "pulled": return x.pulled(0, 0, 0);
            case "held": return x.held(0, 0, 0, 0);
            case "lag": return x.lag(0, 0);
            case "would": return x.would(0, 0, 0, 1, 1);
            case "nextLapse": return x.nextLapse();
            case "replay": return x.replay(0, 0);
            case "cost": return x.cost(0);
            case "event": return x.event(0, 0, 0, 1, 1);
            case "tick": return x.tick(1);
            case "how": return x.how(0);
            case "bounds": return x.bounds(1, 1) ? 1 : 0;
            case "keep": return x.keep() ? 1 : 0;
            case "back": return x.back() ? 1 : 0;
            default: throw new IllegalStateException(NAMES[call]);
        }
    }
}
