import java.lang.reflect.Array;
import java.lang.reflect.Field;
import java.lang.reflect.Modifier;
import java.nio.file.Files;
import java.nio.file.Path;
import java.util.Collections;
import java.util.IdentityHashMap;
import java.util.Set;
import java.util.regex.Pattern;

/** All calls of a run live in one room: an object is small, and what it holds is made once and used again. */
public final class RoomTest {
    private static final int MOST_OBJECTS = 100;
    private static final int MOST_CELLS = 15000;
    /** Acts of every kind, in a window as full as one can be. */
    private static final String[] ACTS = {
        "keep(3)", "glass(0, 1, 1)", "glass(1, 2, 1)", "colours(100000)", "lack(20000)", "bits(0)", "rack(0, 1)", "as(0, 1)",
        "pick(105)", "pick(0)", "sheets(12, 12, true)", "area(105)", "at(1, 1)", "joint(122, 1)", "corner(105, 2)",
        "pane(105, 3)", "touch(0, 1)", "piece(121, 122)", "alike(3)", "undo()", "back(3)", "unpick()", "count(5)", "found(-1)"};

    private static int wrong = 0;

    public static void main(String[] args) throws Exception {
        checkSize();
        checkThatNothingIsReplaced();
        checkThatConstructorsAloneMake(Files.readString(Path.of("src/main/java/GlazierBench.java")));
        System.out.println(wrong == 0 ? "the room is large enough" : wrong + " faults of room");
        System.exit(wrong == 0 ? 0 : 1);
    }

    private static void check(boolean holds, String fault) {
        if (!holds) {
            wrong++;
            System.out.println(fault);
        }
    }

    private static void checkSize() throws IllegalAccessException {
        Set<Object> held = heldBy(new GlazierBench());
        int cells = 0;
        for (Object object : held) {
            cells += object.getClass().isArray() ? Array.getLength(object) : fieldsOf(object);
        }
        check(held.size() <= MOST_OBJECTS, "an object holds " + held.size() + " objects and arrays");
        check(cells <= MOST_CELLS, "an object holds " + cells + " fields and elements");
    }

    private static void checkThatNothingIsReplaced() throws IllegalAccessException {
        GlazierBench bench = new GlazierBench();
        Set<Object> before = heldBy(bench);
        new Run(Windows.FULLEST).acts.forEach(act -> act.on(bench));
        for (String act : ACTS) {
            Act.of(act).on(bench);
        }
        Set<Object> after = heldBy(bench);
        check(before.containsAll(after) && after.containsAll(before), "a call has made objects that are held");
    }

    private static Set<Object> heldBy(Object object) throws IllegalAccessException {
        Set<Object> held = Collections.newSetFromMap(new IdentityHashMap<>());
        gather(object, held);
        return held;
    }

    private static void gather(Object object, Set<Object> held) throws IllegalAccessException {
        if (object == null || !held.add(object)) {
            return;
        }
        if (object instanceof Object[] row) {
            for (Object element : row) {
                gather(element, held);
            }
        } else if (!object.getClass().isArray()) {
            for (Field field : object.getClass().getDeclaredFields()) {
                if (!Modifier.isStatic(field.getModifiers()) && !field.getType().isPrimitive()) {
                    field.setAccessible(true);
                    gather(field.get(object), held);
                }
            }
        }
    }

    private static int fieldsOf(Object object) {
        int fields = 0;
        for (Field field : object.getClass().getDeclaredFields()) {
            fields += Modifier.isStatic(field.getModifiers()) ? 0 : 1;
        }
        return fields;
    }

    /** A constructor's body ends with the first brace that stands as far in as its head does. */
    private static void checkThatConstructorsAloneMake(String text) {
        String code = text.replaceAll("(?s)/\\*.*?\\*/", " ").replaceAll("//[^\n]*", " ");
        String rest = Pattern.compile("(?ms)^( +)(public )?[A-Z]\\w*\\([^)]*\\) \\{$.*?^\\1\\}$").matcher(code).replaceAll("");
        check(!rest.equals(code), "no constructor was found");
        check(!Pattern.compile("\\b(new|clone|copyOf\\w*)\\b").matcher(rest).find(), "something is made outside the constructors");
    }
}
