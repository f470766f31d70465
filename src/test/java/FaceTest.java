import java.lang.reflect.Constructor;
import java.lang.reflect.Field;
import java.lang.reflect.Member;
import java.lang.reflect.Method;
import java.lang.reflect.Modifier;
import java.util.Set;
import java.util.TreeSet;

/** The public face is the document's, and nothing but the classes inside is seen beside it. */
public final class FaceTest {
    private static final String[] FACE = {
        "feed/5", "desk/1", "more/1", "fault/0", "where/0", "about/1", "letter/3", "net/3", "there/2",
        "key/2", "debts/1", "sent/3", "join/3", "closed/3", "rows/0", "row/2", "spell/2", "traffic/1",
        "log/2", "flips/2", "busiest/0", "dearest/0", "begin/1", "pull/1", "pulled/3", "held/4", "lag/2",
        "would/5", "nextLapse/0", "replay/2", "cost/1", "event/5", "tick/1", "how/1", "bounds/2",
        "keep/0", "back/0", "single/1", "size/1", "trouble/0",
    };

    public static void main(String[] args) {
        Check check = new Check("FaceTest");
        check.due("public", Modifier.isPublic(OuterRows.class.getModifiers()), true);
        check.due("final", Modifier.isFinal(OuterRows.class.getModifiers()), true);
        check.due("NONE", OuterRows.NONE, -1);

        Set<String> due = new TreeSet<>(Set.of(FACE));
        Set<String> seen = new TreeSet<>();
        Set<String> names = new TreeSet<>();
        for (Method m : OuterRows.class.getDeclaredMethods()) {
            if (Modifier.isPrivate(m.getModifiers())) {
                continue;
            }
            seen.add(m.getName() + "/" + m.getParameterCount());
            names.add(m.getName());
            check.due(m + " is public", Modifier.isPublic(m.getModifiers()), true);
            check.due(m + " is static", Modifier.isStatic(m.getModifiers()), false);
            boolean isBoolean = m.getReturnType() == boolean.class;
            boolean dueBoolean = Set.of("bounds", "keep", "back").contains(m.getName());
            check.due(m + " answers a boolean", isBoolean, dueBoolean);
            check.due(m + " answers an int", m.getReturnType() == int.class, !dueBoolean);
        }
        check.due("methods", seen.toString(), due.toString());

        for (Constructor<?> c : OuterRows.class.getDeclaredConstructors()) {
            check.due(c + " has no parameters", c.getParameterCount(), 0);
        }
        for (Field f : OuterRows.class.getDeclaredFields()) {
            check.due(f + " is hidden", isHidden(f), !f.getName().equals("NONE"));
        }
        checkInside(check, OuterRows.class, names);
        check.end();
    }

    private static boolean isHidden(Member m) {
        return Modifier.isPrivate(m.getModifiers());
    }

    private static void checkInside(Check check, Class<?> outer, Set<String> names) {
        for (Class<?> c : outer.getDeclaredClasses()) {
            check.due(c + " is public", Modifier.isPublic(c.getModifiers()), false);
            check.due(c + " is static", Modifier.isStatic(c.getModifiers()), true);
            for (Method m : c.getDeclaredMethods()) {
                check.due(m + " bears a public name", names.contains(m.getName()), false);
            }
        }
        for (Method m : outer.getDeclaredMethods()) {
            if (isHidden(m)) {
                check.due(m + " bears a public name", names.contains(m.getName()), false);
            }
        }
    }
}
