import java.util.ArrayList;
import java.util.List;
import java.util.Map;
import java.util.TreeMap;

/**
 * The document's terms told once more, by other means: rows are names in maps, SENT and CLOSED are
 * summed apart from JOIN, and nothing is copied but by doing all again.
 */
final class Model {
    /** A row: KEY, left VALUE, right VALUE; 99 stands for none, so that it is behind all others. */
    record Row(int key, int left, int right) implements Comparable<Row> {
        @Override
        public int compareTo(Row o) {
            return Integer.compare(key * 10000 + left * 100 + right, o.key * 10000 + o.left * 100 + o.right);
        }
    }

    record Change(Row row, int many, int number) {
    }

    record Event(int side, int key, int value, int many, int time) {
    }

    static final int NO = 99;

    final List<String> keys = new ArrayList<>();
    final List<String> values = new ArrayList<>();
    int how;
    int keep;
    int late;
    int clock = 0;
    int tooLate = 0;
    int numbers = 0;
    int lapses = 0;
    final Map<Integer, Integer> latest = new TreeMap<>();
    final Map<Integer, Integer> lapsesOf = new TreeMap<>();
    final Map<String, Integer> nets = new TreeMap<>();
    final Map<String, Integer> flips = new TreeMap<>();
    final Map<Row, Integer> closed = new TreeMap<>();
    final List<Change> changes = new ArrayList<>();
    final List<Event> store = new ArrayList<>();
    final Map<Integer, Map<Row, Integer>> held = new TreeMap<>();
    final Map<Integer, Map<Row, Integer>> pulled = new TreeMap<>();
    final Map<Integer, Integer> seen = new TreeMap<>();

    Model(int how, int keep, int late) {
        this.how = how;
        this.keep = keep;
        this.late = late;
    }

    int net(int side, int key, int value) {
        return nets.getOrDefault(side + "/" + key + "/" + value, 0);
    }

    int there(int side, int key, int value) {
        return Math.max(0, net(side, key, value));
    }

    int there(int side, int key) {
        int all = 0;
        for (int v = 0; v < values.size(); v++) {
            all += there(side, key, v);
        }
        return all;
    }

    boolean leftOuter() {
        return how == 1 || how == 3;
    }

    boolean rightOuter() {
        return how == 2 || how == 3;
    }

    int join(Row row) {
        if (row.left == NO) {
            return rightOuter() && there(0, row.key) == 0 ? there(1, row.key, row.right) : 0;
        }
        if (row.right == NO) {
            return leftOuter() && there(1, row.key) == 0 ? there(0, row.key, row.left) : 0;
        }
        return there(0, row.key, row.left) * there(1, row.key, row.right);
    }

    Map<Row, Integer> sent() {
        Map<Row, Integer> all = new TreeMap<>();
        for (Change c : changes) {
            all.merge(c.row, c.many, Integer::sum);
        }
        all.values().removeIf(n -> n == 0);
        return all;
    }

    List<Row> rowsOf(int key) {
        List<Row> all = new ArrayList<>();
        for (int l = 0; l <= values.size(); l++) {
            for (int r = 0; r <= values.size(); r++) {
                if (l < values.size() || r < values.size()) {
                    all.add(new Row(key, l == values.size() ? NO : l, r == values.size() ? NO : r));
                }
            }
        }
        return all;
    }

    int tick(int time) {
        clock = Math.max(clock, time);
        int count = 0;
        for (int k = 0; k < keys.size(); k++) {
            if (latest.containsKey(k) && latest.get(k) + keep < clock) {
                lapse(k);
                count++;
            }
        }
        return count;
    }

    private void lapse(int k) {
        for (Row row : rowsOf(k)) {
            closed.merge(row, join(row), Integer::sum);
        }
        for (int side = 0; side < 2; side++) {
            if (there(side, k) > 0) {
                flips.merge(side + "/" + k, 1, Integer::sum);
            }
            for (int v = 0; v < values.size(); v++) {
                nets.remove(side + "/" + k + "/" + v);
            }
        }
        latest.remove(k);
        lapsesOf.merge(k, 1, Integer::sum);
        lapses++;
    }

    int event(Event e) {
        if (e.time < clock - late) {
            tooLate++;
            return -2;
        }
        tick(e.time);
        numbers++;
        if (store.size() < 60) {
            store.add(e);
        }
        int count = apply(e);
        latest.put(e.key, Math.max(e.time, latest.getOrDefault(e.key, 0)));
        return count;
    }

    /** CHANGES are the JOIN behind less the JOIN ahead, row by row, put into the document's order. */
    int apply(Event e) {
        Map<Row, Integer> ahead = new TreeMap<>();
        for (Row row : rowsOf(e.key)) {
            ahead.put(row, join(row));
        }
        boolean had = there(e.side, e.key) > 0;
        nets.merge(e.side + "/" + e.key + "/" + e.value, e.many, Integer::sum);
        boolean has = there(e.side, e.key) > 0;
        if (had != has) {
            flips.merge(e.side + "/" + e.key, 1, Integer::sum);
        }
        List<Change> first = new ArrayList<>();
        List<Change> rows = new ArrayList<>();
        List<Change> last = new ArrayList<>();
        for (Row row : rowsOf(e.key)) {
            int many = join(row) - ahead.get(row);
            boolean isOthersOuter = (e.side == 0 ? row.left : row.right) == NO;
            if (many != 0) {
                (!isOthersOuter ? rows : many < 0 ? first : last).add(new Change(row, many, numbers));
            }
        }
        changes.addAll(first);
        changes.addAll(rows);
        changes.addAll(last);
        return first.size() + rows.size() + last.size();
    }

    int exchange(int newHow) {
        numbers++;
        int before = changes.size();
        for (int k = 0; k < keys.size(); k++) {
            if (!latest.containsKey(k)) {
                continue;
            }
            int oldHow = how;
            Map<Row, Integer> moved = new TreeMap<>();
            for (Row row : rowsOf(k)) {
                int old = join(row);
                how = newHow;
                moved.put(row, join(row) - old);
                how = oldHow;
            }
            for (int sign = -1; sign <= 1; sign += 2) {
                for (Map.Entry<Row, Integer> m : moved.entrySet()) {
                    if (m.getValue() * sign > 0) {
                        changes.add(new Change(m.getKey(), m.getValue(), numbers));
                    }
                }
            }
        }
        how = newHow;
        return changes.size() - before;
    }

    int would(Event e) {
        Model m = new Model(how, keep, late);
        m.keys.addAll(keys);
        m.values.addAll(values);
        m.clock = clock;
        m.nets.putAll(nets);
        m.latest.putAll(latest);
        return m.event(e);
    }

    /** CHANGES, rows, SENT of all rows, of the EVENTS in that order. */
    int[] trial(List<Event> events, int byHow) {
        Model m = new Model(byHow, 999, 999);
        m.keys.addAll(keys);
        m.values.addAll(values);
        for (Event e : events) {
            m.apply(e);
        }
        int sum = 0;
        for (int n : m.sent().values()) {
            sum += n;
        }
        return new int[] {m.changes.size(), m.sent().size(), sum};
    }

    int[] replay(int seed) {
        List<Event> events = new ArrayList<>(store);
        long draw = seed;
        for (int i = events.size() - 1; i >= 1; i--) {
            draw = (75 * draw + 74) % 65537;
            java.util.Collections.swap(events, i, (int) (draw % (i + 1)));
        }
        return trial(events, how);
    }

    void begin(int who) {
        held.put(who, sent());
        pulled.put(who, new TreeMap<>());
        seen.put(who, changes.size());
    }

    int pull(int who) {
        pulled.put(who, differences(who));
        held.put(who, sent());
        seen.put(who, changes.size());
        return pulled.get(who).size();
    }

    Map<Row, Integer> differences(int who) {
        Map<Row, Integer> all = new TreeMap<>(sent());
        for (Map.Entry<Row, Integer> h : held.get(who).entrySet()) {
            all.merge(h.getKey(), -h.getValue(), Integer::sum);
        }
        all.values().removeIf(n -> n == 0);
        return all;
    }
}
