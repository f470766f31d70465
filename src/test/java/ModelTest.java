import java.util.ArrayList;
import java.util.List;
import java.util.Map;
import java.util.Random;

/** Random runs, all answers compared with the model's. */
public final class ModelTest {
    private static final Check CHECK = new Check("ModelTest");
    private static final String[] HOWS = {"inner", "left", "right", "full"};
    private static final String[] MUTATIONS = {" ", ";", "desk", "put", "back", "tick", "left", "right", "by", "at", "0", "10", "12345",
        "9999", "abcdef", "x", "%", "keep", "late", "inner", "", "\t", "A", "\u00ff"};

    private interface Act {
        void on(Model m);
    }

    private final Random random;
    private final OuterRows x = new OuterRows();
    private final int keys;
    private final int values;
    private final int span;
    private Model model = null;
    private int[] deskNumbers = null;
    private List<Act> acts = new ArrayList<>();
    private List<Act> keptActs = null;
    private int fault = 0;

    private ModelTest(int seed) {
        random = new Random(seed);
        keys = 1 + random.nextInt(8);
        values = 1 + random.nextInt(8);
        span = 1 + random.nextInt(12);
    }

    public static void main(String[] args) {
        int runs = args.length == 0 ? 400 : Integer.parseInt(args[0]);
        for (int seed = 0; seed < runs && CHECK.wrong() < 20; seed++) {
            new ModelTest(seed).run();
        }
        CHECK.end();
    }

    private void run() {
        for (int i = 0; i < 60; i++) {
            step();
            compare();
        }
    }

    private void step() {
        switch (model == null ? 0 : random.nextInt(30)) {
            case 0 -> tellDesk();
            case 1, 2, 3 -> tellMore();
            case 4, 5 -> tick();
            case 6, 7 -> exchange();
            case 8 -> bounds();
            case 9 -> keep();
            case 10, 11 -> back();
            case 12, 13 -> begin();
            case 14, 15, 16 -> pull();
            default -> event();
        }
    }

    private int time() {
        int clock = model == null ? 0 : model.clock;
        int time = clock + random.nextInt(span + 2) - span / 2;
        return Math.min(9999, Math.max(0, time));
    }

    private String line() {
        if (random.nextInt(8) == 0) {
            return "tick " + time();
        }
        String by = random.nextBoolean() ? "" : " by " + (1 + random.nextInt(9));
        return (random.nextInt(3) > 0 ? "put " : "back ") + (random.nextBoolean() ? "left " : "right ")
            + "k" + (char) ('a' + random.nextInt(keys)) + " " + (char) ('p' + random.nextInt(values)) + by + " at " + time();
    }

    private String lines(int most) {
        StringBuilder all = new StringBuilder(line());
        int count = random.nextInt(most);
        for (int i = 0; i < count; i++) {
            all.append(random.nextInt(4) == 0 ? " ; " : ";").append(line());
        }
        return all.toString();
    }

    private String mutated(String text) {
        if (random.nextInt(3) > 0) {
            return text;
        }
        int at = random.nextInt(text.length() + 1);
        int to = Math.min(text.length(), at + random.nextInt(4));
        return text.substring(0, at) + MUTATIONS[random.nextInt(MUTATIONS.length)] + text.substring(to);
    }

    private void tellDesk() {
        String text = mutated("desk " + HOWS[random.nextInt(4)] + " keep " + (1 + random.nextInt(span)) + " late " + random.nextInt(span)
            + (random.nextBoolean() ? ";" + lines(12) : ""));
        ModelText read = new ModelText(text, false, List.of(), List.of());
        int got = Check.desk(x, text);
        fault = read.fault;
        if (read.fault != 0) {
            CHECK.dueFault(text, x, got, read.fault, read.where);
            return;
        }
        model = read.newDesk();
        deskNumbers = new int[] {model.how, model.keep, model.late};
        acts = new ArrayList<>();
        keptActs = null;
        acts.add(read::doOn);
        CHECK.due(text, x, got, read.doOn(model), 0);
    }

    private void tellMore() {
        String text = mutated(lines(random.nextInt(10) == 0 ? 42 : 6));
        if (text.length() > 900) {
            return;
        }
        ModelText read = new ModelText(text, true, model.keys, model.values);
        int got = Check.more(x, text);
        fault = read.fault;
        if (read.fault != 0) {
            CHECK.dueFault(text, x, got, read.fault, read.where);
            return;
        }
        acts.add(read::doOn);
        CHECK.due(text, x, got, read.doOn(model), 0);
    }

    private void event() {
        if (model.keys.isEmpty()) {
            return;
        }
        int many = random.nextInt(19) - 9;
        Model.Event e = new Model.Event(random.nextInt(2), random.nextInt(model.keys.size()), random.nextInt(model.values.size()),
            many == 0 ? 1 : many, time());
        CHECK.due("would " + e, x, x.would(e.side(), e.key(), e.value(), e.many(), e.time()), model.would(e), 0);
        acts.add(m -> m.event(e));
        CHECK.due("event " + e, x, x.event(e.side(), e.key(), e.value(), e.many(), e.time()), model.event(e), 0);
    }

    private void tick() {
        int time = time();
        acts.add(m -> m.tick(time));
        CHECK.due("tick " + time, x, x.tick(time), model.tick(time), 0);
    }

    private void exchange() {
        int how = random.nextInt(4);
        acts.add(m -> m.exchange(how));
        CHECK.due("how " + how, x, x.how(how), model.exchange(how), 0);
    }

    private void bounds() {
        int keep = 1 + random.nextInt(span);
        int late = random.nextInt(span);
        Act act = m -> {
            m.keep = keep;
            m.late = late;
        };
        acts.add(act);
        act.on(model);
        CHECK.due("bounds", x.bounds(keep, late), true);
    }

    private void keep() {
        keptActs = new ArrayList<>(acts);
        CHECK.due("keep", x.keep(), true);
    }

    private void back() {
        CHECK.due("back", x.back(), keptActs != null);
        if (keptActs == null) {
            return;
        }
        acts = new ArrayList<>(keptActs);
        model = new Model(deskNumbers[0], deskNumbers[1], deskNumbers[2]);
        for (Act act : acts) {
            act.on(model);
        }
    }

    private void begin() {
        int who = random.nextInt(4);
        acts.add(m -> m.begin(who));
        model.begin(who);
        CHECK.due("begin", x.begin(who), model.sent().size());
    }

    private void pull() {
        int who = random.nextInt(4);
        if (!model.held.containsKey(who)) {
            CHECK.due("pull", x, x.pull(who), -1, 1);
            return;
        }
        acts.add(m -> m.pull(who));
        CHECK.due("pull", x.pull(who), model.pull(who));
    }

    private void compare() {
        CHECK.due("fault()", x.fault(), fault);
        if (model == null) {
            CHECK.due("about(0)", x.about(0), -1);
            return;
        }
        compareDesk();
        compareKeys();
        compareRows();
        compareLog();
        compareSubscribers();
        compareTrials();
    }

    private void compareDesk() {
        int[] due = {model.how, model.keep, model.late, model.keys.size(), model.values.size(), model.clock, model.latest.size(),
            model.numbers, model.tooLate, model.lapses};
        for (int what = 0; what < due.length; what++) {
            CHECK.due("about(" + what + ")", x.about(what), due[what]);
        }
        for (int k = 0; k < model.keys.size(); k++) {
            CHECK.due("a KEY's word", word(0, k), model.keys.get(k));
        }
        for (int v = 0; v < model.values.size(); v++) {
            CHECK.due("a VALUE's word", word(1, v), model.values.get(v));
        }
        int[] sizes = {0, Math.min(60, model.changes.size()), model.store.size(), keptActs == null ? 0 : 1, model.held.size()};
        for (int what = 0; what < sizes.length; what++) {
            CHECK.due("size(" + what + ")", x.size(what), sizes[what]);
        }
    }

    private String word(int kind, int number) {
        StringBuilder all = new StringBuilder();
        for (int i = 0; x.letter(kind, number, i) > 0; i++) {
            all.append((char) x.letter(kind, number, i));
        }
        return all.toString();
    }

    private void compareKeys() {
        int next = -2;
        List<Integer> singles = new ArrayList<>();
        int[] debts = new int[2];
        for (int k = 0; k < model.keys.size(); k++) {
            int key = k;
            Integer latest = model.latest.get(k);
            int sends = (int) model.changes.stream().filter(c -> c.row().key() == key).count();
            int[] due = {latest == null ? 0 : 1, latest == null ? -2 : latest, latest == null ? -2 : latest + model.keep + 1,
                model.lapsesOf.getOrDefault(k, 0), sends};
            for (int what = 0; what < due.length; what++) {
                CHECK.due("key(" + k + ", " + what + ")", x.key(k, what), due[what]);
            }
            if (latest != null && (next == -2 || latest < model.latest.get(next))) {
                next = k;
            }
            if (latest != null && (model.there(0, k) > 0) != (model.there(1, k) > 0)) {
                singles.add(k);
            }
            for (int side = 0; side < 2; side++) {
                CHECK.due("there", x.there(side, k), model.there(side, k));
                CHECK.due("flips", x.flips(side, k), model.flips.getOrDefault(side + "/" + k, 0));
                for (int v = 0; v < model.values.size(); v++) {
                    CHECK.due("net", x.net(side, k, v), model.net(side, k, v));
                    debts[side] += model.net(side, k, v) < 0 ? 1 : 0;
                }
            }
        }
        CHECK.due("debts(0)", x.debts(0), debts[0]);
        CHECK.due("debts(1)", x.debts(1), debts[1]);
        CHECK.due("nextLapse", x.nextLapse(), next);
        for (int i = 0; i < singles.size(); i++) {
            CHECK.due("single", x.single(i), singles.get(i));
        }
        CHECK.dueNoSingle(x, singles.size());
    }

    private static int told(int value) {
        return value == Model.NO ? -1 : value;
    }

    private void compareRows() {
        Map<Model.Row, Integer> sent = model.sent();
        for (int k = 0; k < model.keys.size(); k++) {
            for (Model.Row row : model.rowsOf(k)) {
                int left = told(row.left());
                int right = told(row.right());
                int join = model.join(row);
                int closed = model.closed.getOrDefault(row, 0);
                CHECK.due("sent " + row, x.sent(k, left, right), sent.getOrDefault(row, 0));
                CHECK.due("sent is join and closed " + row, sent.getOrDefault(row, 0), join + closed);
                CHECK.due("join " + row, x.join(k, left, right), join);
                CHECK.due("closed " + row, x.closed(k, left, right), closed);
            }
        }
        StringBuilder texts = new StringBuilder();
        int i = 0;
        for (Map.Entry<Model.Row, Integer> e : sent.entrySet()) {
            Model.Row row = e.getKey();
            texts.append(i == 0 ? "" : " ").append(model.keys.get(row.key())).append(':');
            texts.append(row.left() == Model.NO ? "-" : model.values.get(row.left())).append('|');
            texts.append(row.right() == Model.NO ? "-" : model.values.get(row.right())).append('*').append(e.getValue());
            CHECK.due("row 0", x.row(i, 0), row.key());
            CHECK.due("row 1", x.row(i, 1), row.left() == Model.NO ? -2 : row.left());
            CHECK.due("row 2", x.row(i, 2), row.right() == Model.NO ? -2 : row.right());
            CHECK.due("row 3", x.row(i, 3), e.getValue());
            i++;
        }
        CHECK.due("rows()", x.rows(), i);
        CHECK.due("texts", Check.rows(x), texts.toString());
    }

    private void compareLog() {
        StringBuilder log = new StringBuilder();
        List<Model.Change> all = model.changes;
        for (Model.Change c : all.subList(Math.max(0, all.size() - 60), all.size())) {
            log.append(log.length() == 0 ? "" : " ").append(c.row().key());
            log.append(',').append(c.row().left() == Model.NO ? -2 : c.row().left());
            log.append(',').append(c.row().right() == Model.NO ? -2 : c.row().right());
            log.append(',').append(c.many()).append('@').append(c.number());
        }
        CHECK.due("log", Check.log(x), log.toString());
        int came = 0;
        int went = 0;
        int[] byNumber = new int[model.numbers + 1];
        int[] byKey = new int[8];
        for (Model.Change c : all) {
            came += Math.max(0, c.many());
            went += Math.max(0, -c.many());
            byNumber[c.number()]++;
            byKey[c.row().key()]++;
        }
        int dearest = 0;
        for (int n = 1; n < byNumber.length; n++) {
            dearest = byNumber[n] > byNumber[dearest] ? n : dearest;
        }
        int busiest = 0;
        for (int k = 1; k < 8; k++) {
            busiest = byKey[k] > byKey[busiest] ? k : busiest;
        }
        int[] due = {came, went, all.size(), byNumber[dearest]};
        for (int what = 0; what < due.length; what++) {
            CHECK.due("traffic(" + what + ")", x.traffic(what), due[what]);
        }
        CHECK.due("dearest", x.dearest(), all.isEmpty() ? -2 : dearest);
        CHECK.due("busiest", x.busiest(), all.isEmpty() ? -2 : busiest);
    }

    private void compareSubscribers() {
        for (int who = 0; who < 4; who++) {
            if (!model.held.containsKey(who)) {
                CHECK.due("lag of none", x.lag(who, 0), -1);
                continue;
            }
            int behind = model.changes.size() - model.seen.get(who);
            int[] due = {behind, behind <= 60 ? 1 : 0, model.differences(who).size(), model.pulled.get(who).size()};
            for (int what = 0; what < due.length; what++) {
                CHECK.due("lag(" + who + ", " + what + ")", x.lag(who, what), due[what]);
            }
            StringBuilder differences = new StringBuilder();
            for (Map.Entry<Model.Row, Integer> e : model.pulled.get(who).entrySet()) {
                Model.Row row = e.getKey();
                differences.append(differences.length() == 0 ? "" : " ").append(row.key());
                differences.append(',').append(row.left() == Model.NO ? -2 : row.left());
                differences.append(',').append(row.right() == Model.NO ? -2 : row.right()).append(',').append(e.getValue());
            }
            CHECK.due("differences", Check.differences(x, who), differences.toString());
            for (int k = 0; k < model.keys.size(); k++) {
                for (Model.Row row : model.rowsOf(k)) {
                    CHECK.due("held", x.held(who, k, told(row.left()), told(row.right())), model.held.get(who).getOrDefault(row, 0));
                }
            }
        }
    }

    private void compareTrials() {
        int seed = random.nextInt(65537);
        int[] due = model.replay(seed);
        for (int what = 0; what < 3; what++) {
            CHECK.due("replay(" + seed + ", " + what + ")", x.replay(seed, what), due[what]);
        }
        int how = random.nextInt(4);
        CHECK.due("cost(" + how + ")", x.cost(how), model.trial(model.store, how)[0]);
    }
}
