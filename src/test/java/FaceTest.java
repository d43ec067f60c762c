import java.lang.reflect.Constructor;
import java.lang.reflect.Field;
import java.lang.reflect.Method;
import java.lang.reflect.Modifier;
import java.util.Arrays;
import java.util.TreeSet;

/** Promise 1, and the public face as the document writes it. */
public final class FaceTest {

    private static final String[] METHODS = {
        "int append(int) throws IllegalArgumentException, IllegalStateException",
        "int clearText()",
        "int errorPosition()",
        "int load() throws IllegalStateException",
        "int about(int) throws IllegalArgumentException",
        "int caterpillar(int, int) throws IndexOutOfBoundsException, IllegalArgumentException",
        "int lies(int, int) throws IndexOutOfBoundsException",
        "int room(int, int) throws IndexOutOfBoundsException, IllegalArgumentException",
        "int next(int) throws IndexOutOfBoundsException",
        "int waitsFor(int) throws IndexOutOfBoundsException",
        "int ring(int) throws IllegalArgumentException",
        "int hatch(int, int, int) throws IndexOutOfBoundsException, IllegalArgumentException, IllegalStateException",
        "int ticks(int) throws IllegalArgumentException",
        "int rule(int) throws IllegalArgumentException",
        "int shut(int, boolean) throws IndexOutOfBoundsException, IllegalStateException",
        "int pull(int) throws IndexOutOfBoundsException, IllegalStateException",
        "int undo() throws IllegalStateException",
        "int goneIn(int) throws IndexOutOfBoundsException",
        "int throughIn()",
        "int bestRule()",
        "int bestPull()",
        "int ifHatched(int, int, int) throws IndexOutOfBoundsException, IllegalArgumentException",
        "int runScript(int, long) throws IllegalArgumentException",
        "int simulate(long, int) throws IllegalArgumentException",
        "int save(int) throws IndexOutOfBoundsException",
        "int restore(int) throws IndexOutOfBoundsException, IllegalStateException",
    };

    private FaceTest() {
    }

    public static void main(String[] args) {
        theFaceIsAsWritten();
        aNewObjectIsEmpty();
        objectsAreApart();
        Check.end();
    }

    private static void theFaceIsAsWritten() {
        Class<?> made = LongCaterpillars.class;
        Check.due("public and final", made.getModifiers(), Modifier.PUBLIC | Modifier.FINAL);
        TreeSet<String> due = new TreeSet<>(Arrays.asList(METHODS));
        TreeSet<String> found = new TreeSet<>();
        TreeSet<String> publicNames = new TreeSet<>();
        for (Method m : made.getDeclaredMethods()) {
            if (Modifier.isPublic(m.getModifiers())) {
                found.add(written(m));
                publicNames.add(m.getName());
            }
        }
        for (Method m : made.getDeclaredMethods()) {
            if (!Modifier.isPublic(m.getModifiers())
                    && (!Modifier.isPrivate(m.getModifiers()) || publicNames.contains(m.getName()))) {
                Check.tell("no member of this kind is due: " + m);
            }
        }
        if (!found.equals(due)) {
            Check.tell("the methods are " + found + ", due are " + due);
        }
        for (Field f : made.getDeclaredFields()) {
            if (!Modifier.isPrivate(f.getModifiers()) && !f.getName().equals("NONE")) {
                Check.tell("no such field is due: " + f);
            }
        }
        Constructor<?>[] constructors = made.getConstructors();
        Check.due("public constructors", constructors.length, 1);
        Check.due("parameters of the constructor", constructors[0].getParameterCount(), 0);
        Check.due("NONE", LongCaterpillars.NONE, -1);
    }

    private static String written(Method m) {
        StringBuilder s = new StringBuilder();
        s.append(m.getReturnType().getSimpleName()).append(' ').append(m.getName()).append('(');
        s.append(names(m.getParameterTypes())).append(')');
        if (m.getExceptionTypes().length > 0) {
            s.append(" throws ").append(names(m.getExceptionTypes()));
        }
        return s.toString();
    }

    private static String names(Class<?>[] types) {
        String[] names = new String[types.length];
        for (int k = 0; k < types.length; k++) {
            names[k] = types[k].getSimpleName();
        }
        return String.join(", ", names);
    }

    private static void aNewObjectIsEmpty() {
        LongCaterpillars x = new LongCaterpillars();
        for (int what = 0; what <= 9; what++) {
            Check.due("about(" + what + "), new", x.about(what), 0);
        }
        for (int k = 0; k < 36; k++) {
            Check.due("room(" + k + ", 0), new", x.room(k, 0), -1);
            Check.due("room(" + k + ", 1), new", x.room(k, 1), 0);
        }
        Check.due("ring(0), new", x.ring(0), -1);
        Check.due("ring(1), new", x.ring(1), -1);
        Check.due("errorPosition(), new", x.errorPosition(), 0);
        Check.due("clearText(), new", x.clearText(), 0);
        Check.due("throughIn(), new", x.throughIn(), 0);
        Check.due("bestRule(), new", x.bestRule(), 0);
        Check.due("bestPull(), new", x.bestPull(), -1);
        Check.dueThrow("caterpillar(0, 0), new", IndexOutOfBoundsException.class, () -> x.caterpillar(0, 0));
        Check.dueThrow("undo(), new", IllegalStateException.class, x::undo);
        Check.dueThrow("restore(0), new", IllegalStateException.class, () -> x.restore(0));
        Check.dueThrow("restore(1), new", IllegalStateException.class, () -> x.restore(1));
        Check.due("rule(2), new", x.rule(2), 0);
    }

    private static void objectsAreApart() {
        LongCaterpillars x = new LongCaterpillars();
        LongCaterpillars y = new LongCaterpillars();
        x.hatch(1, 2, 3);
        x.ticks(2);
        x.save(0);
        x.append('L');
        Check.due("about(0) of the other object", y.about(0), 0);
        Check.due("append of the other object", y.append('L'), 1);
        Check.dueThrow("restore(0) of the other object", IllegalStateException.class, () -> y.restore(0));
    }
}
