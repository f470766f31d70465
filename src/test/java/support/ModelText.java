import java.util.ArrayList;
import java.util.List;
import java.util.regex.Matcher;
import java.util.regex.Pattern;

/**
 * Texts read by other means: the first TOKEN with which no TEXT goes on is the first one at which a
 * pattern of whole TEXTS neither matches nor comes to the end of what there is.
 */
final class ModelText {
    private static final String WORD = "(?!(?:desk|put|back|tick|by|at) )[a-z]{1,5} ";
    private static final String WHOLE = "[0-9]{1,4} ";
    private static final String LINE = "(?:desk (?:inner|left|right|full) keep " + WHOLE + "late " + WHOLE
        + "|(?:put|back) (?:left|right) " + WORD + WORD + "(?:by " + WHOLE + ")?at " + WHOLE
        + "|tick " + WHOLE + ")";
    private static final Pattern TEXT = Pattern.compile(LINE + "(?:; " + LINE + ")*");
    private static final Pattern TOKEN = Pattern.compile("[a-z]+|[0-9]+|[^ ]", Pattern.DOTALL);

    int fault = 0;
    int where = -1;
    final List<List<String>> lines = new ArrayList<>();
    final List<String> keys;
    final List<String> values;
    private int count = 0;
    private boolean hasDesk;

    ModelText(String text, boolean isMore, List<String> knownKeys, List<String> knownValues) {
        keys = new ArrayList<>(knownKeys);
        values = new ArrayList<>(knownValues);
        hasDesk = isMore;
        List<String> tokens = new ArrayList<>();
        List<Integer> places = new ArrayList<>();
        Matcher m = TOKEN.matcher(text);
        while (m.find()) {
            tokens.add(m.group());
            places.add(m.start());
        }
        read(tokens, places, text.length());
    }

    private static boolean goesOn(String prefix) {
        Matcher m = TEXT.matcher(prefix);
        return m.matches() || m.hitEnd();
    }

    private void read(List<String> tokens, List<Integer> places, int end) {
        StringBuilder prefix = new StringBuilder();
        List<String> line = new ArrayList<>();
        for (int i = 0; i < tokens.size(); i++) {
            String token = tokens.get(i);
            prefix.append(token).append(' ');
            if (!goesOn(prefix.toString())) {
                fault = 1;
            } else if (token.equals(";")) {
                lines.add(line);
                line = new ArrayList<>();
            } else {
                line.add(token);
                fault = faultOfLast(line);
            }
            if (fault != 0) {
                where = places.get(i);
                return;
            }
        }
        lines.add(line);
        if (!TEXT.matcher(prefix).matches()) {
            fault = 1;
            where = end;
        }
    }

    private int faultOfLast(List<String> line) {
        int at = line.size() - 1;
        String token = line.get(at);
        boolean isDesk = line.get(0).equals("desk");
        if (at == 0) {
            return faultOfFirst(isDesk);
        }
        if (Character.isDigit(token.charAt(0))) {
            String ahead = line.get(at - 1);
            int n = Integer.parseInt(token);
            int least = ahead.equals("keep") || ahead.equals("by") ? 1 : 0;
            int most = isDesk ? 999 : ahead.equals("by") ? 9 : 9999;
            return n < least || n > most ? 2 : 0;
        }
        boolean isName = !isDesk && (at == 2 || at == 3);
        List<String> names = at == 2 ? keys : values;
        if (isName && !names.contains(token)) {
            names.add(token);
            return names.size() > 8 ? 4 : 0;
        }
        return 0;
    }

    private int faultOfFirst(boolean isDesk) {
        if (isDesk) {
            int again = hasDesk ? 3 : 0;
            hasDesk = true;
            return again;
        }
        count++;
        return count > 40 ? 4 : hasDesk ? 0 : 5;
    }

    /** Does the LINES but the desk's: how many CHANGES they send. */
    int doOn(Model m) {
        m.keys.clear();
        m.keys.addAll(keys);
        m.values.clear();
        m.values.addAll(values);
        int before = m.changes.size();
        for (List<String> line : lines) {
            int last = Integer.parseInt(line.get(line.size() - 1));
            if (line.get(0).equals("tick")) {
                m.tick(last);
            } else if (!line.get(0).equals("desk")) {
                int many = line.contains("by") ? Integer.parseInt(line.get(line.size() - 3)) : 1;
                m.event(new Model.Event(line.get(1).equals("left") ? 0 : 1, keys.indexOf(line.get(2)),
                    values.indexOf(line.get(3)), line.get(0).equals("put") ? many : -many, last));
            }
        }
        return m.changes.size() - before;
    }

    Model newDesk() {
        List<String> desk = lines.get(0);
        return new Model(List.of("inner", "left", "right", "full").indexOf(desk.get(1)),
            Integer.parseInt(desk.get(3)), Integer.parseInt(desk.get(5)));
    }
}
