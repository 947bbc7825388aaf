import java.lang.reflect.Constructor;
import java.lang.reflect.Field;
import java.lang.reflect.Method;
import java.lang.reflect.Modifier;
import java.util.ArrayList;
import java.util.List;
import java.util.TreeSet;

/** The public face is the document's, and nothing else of the class can be seen or is shared between objects. */
public final class FaceTest {
    private static final String[] FACE = {
        "public int GoalDesk.add() throws java.lang.IllegalArgumentException,java.lang.IllegalStateException",
        "public int GoalDesk.ask() throws java.lang.IllegalArgumentException,java.util.NoSuchElementException,"
            + "java.lang.IllegalStateException,java.lang.UnsupportedOperationException",
        "public int GoalDesk.count(int)",
        "public int GoalDesk.letter(int,int) throws java.lang.IllegalArgumentException,java.util.NoSuchElementException",
        "public int GoalDesk.next() throws java.util.NoSuchElementException,java.lang.IllegalStateException,"
            + "java.lang.UnsupportedOperationException",
        "public int GoalDesk.sleeping(int) throws java.lang.IllegalArgumentException",
        "public int GoalDesk.type(long) throws java.lang.IllegalArgumentException,java.lang.IllegalStateException",
        "public void GoalDesk.drop(int) throws java.lang.IllegalArgumentException"};

    public static void main(String[] args) {
        Due due = new Due();
        Class<?> desk = GoalDesk.class;
        due.same("the class", Modifier.toString(desk.getModifiers()), "public final");
        TreeSet<String> seen = new TreeSet<>();
        List<Class<?>> all = new ArrayList<>(List.of(desk.getDeclaredClasses()));
        all.add(desk);
        for (Method method : desk.getDeclaredMethods()) {
            if (!Modifier.isPrivate(method.getModifiers())) {
                seen.add(method.toGenericString());
            }
        }
        due.same("the methods", seen.toString(), new TreeSet<>(List.of(FACE)).toString());
        for (Constructor<?> constructor : desk.getDeclaredConstructors()) {
            due.same("the constructor", constructor.toGenericString(), "public GoalDesk()");
        }
        for (Class<?> one : all) {
            look(due, one, one == desk);
        }
        due.end();
    }

    private static void look(Due due, Class<?> one, boolean desk) {
        for (Field field : one.getDeclaredFields()) {
            int m = field.getModifiers();
            due.same(field + " is private", String.valueOf(Modifier.isPrivate(m)), "true");
            due.same(field + " is no static state", String.valueOf(Modifier.isStatic(m) && !Modifier.isFinal(m)), "false");
        }
        if (!desk) {
            due.same(one + " is static", String.valueOf(Modifier.isStatic(one.getModifiers())), "true");
        }
    }
}
