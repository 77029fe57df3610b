import java.lang.reflect.Constructor;
import java.lang.reflect.Field;
import java.lang.reflect.Method;
import java.lang.reflect.Modifier;
import java.util.Arrays;
import java.util.TreeSet;

/** The public face is that of the document, and no other member can be seen (rule 1 of LANGUAGE.md). */
public final class FaceOfClassTest {
    private static final String[] FACE = {
        "int type(int,int,boolean)", "int face(int,int)", "int field(int,int,boolean,int)",
        "int line(int,int,int,int,int)", "int use(int,int,int,int,int)", "int failure()", "int told(int,int,int)",
        "int peek(int,int,int)", "int start(int,int)", "int message(int) throws ArrayIndexOutOfBoundsException",
        "int steps(int,int)", "int undo(int)", "int restart(int)", "int about(int)", "int clear()",
        "ExtensionStarts()", "NONE = -1", "UNKNOWN = -101", "OUTSIDE = -102", "STATE = -103", "FULL = -104",
    };

    public static void main(String[] args) throws IllegalAccessException {
        Checks checks = new Checks("face");
        TreeSet<String> seen = new TreeSet<>();
        for (Method m : ExtensionStarts.class.getDeclaredMethods()) {
            if (!Modifier.isPrivate(m.getModifiers())) {
                seen.add("int " + m.getName() + names(m.getParameterTypes()) + thrown(m));
                checks.holds(m + " is public and answers an int",
                    m.getModifiers() == Modifier.PUBLIC && m.getReturnType() == int.class);
            }
        }
        for (Constructor<?> c : ExtensionStarts.class.getDeclaredConstructors()) {
            seen.add("ExtensionStarts" + names(c.getParameterTypes()));
            checks.holds(c + " is public", c.getModifiers() == Modifier.PUBLIC);
        }
        for (Field f : ExtensionStarts.class.getDeclaredFields()) {
            if (!Modifier.isPrivate(f.getModifiers())) {
                seen.add(f.getName() + " = " + f.getInt(null));
                checks.due(f + "", f.getModifiers(), Modifier.PUBLIC | Modifier.STATIC | Modifier.FINAL);
            }
        }
        checks.due("the class", ExtensionStarts.class.getModifiers(), Modifier.PUBLIC | Modifier.FINAL);
        checks.holds("face " + seen, seen.equals(new TreeSet<>(Arrays.asList(FACE))));
        checks.end();
    }

    private static String names(Class<?>[] types) {
        StringBuilder text = new StringBuilder("(");
        for (Class<?> type : types) {
            text.append(text.length() > 1 ? "," : "").append(type.getSimpleName());
        }
        return text.append(")").toString();
    }

    private static String thrown(Method m) {
        return m.getExceptionTypes().length == 0 ? "" : " throws " + m.getExceptionTypes()[0].getSimpleName();
    }
}
