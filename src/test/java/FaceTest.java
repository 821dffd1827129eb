import java.lang.reflect.Constructor;
import java.lang.reflect.Field;
import java.lang.reflect.Method;
import java.lang.reflect.Modifier;
import java.util.Set;
import java.util.TreeSet;

/** The face is the document's, to the letter, and nothing else can be seen from outside. */
public final class FaceTest {
    private static final String[] METHODS = {
        "int sheet(int,int)", "int cell(int,int,int,int)", "int gap(int,int)", "int lose(int)",
        "int told(int,int)", "int winds(int,int)", "int wind(int,int,int)", "int blows(int,int)",
        "int jumper(int,int,int,int)", "int group(int,int,int,int)", "int join(int,int)", "int of(int,int)",
        "int plane(int,int,int,int,int)", "int rule(int,int)", "int load(int)", "int put(int,int,int)",
        "int out(int,int)", "int pause(int,int,int)", "int start(int,int)", "int in(int,int)",
        "int where(int,int,int,int)", "long near(int,int,int)", "int between(int,int,int)", "int order(int)",
        "int spot(int,int)", "int why(int,int)", "int leave(int,int)", "int many(int)"
    };

    public static void main(String[] args) {
        Due.part("constants");
        constants();
        Due.part("class");
        Due.holds("public", Modifier.isPublic(JumpDesk.class.getModifiers()));
        Due.holds("final", Modifier.isFinal(JumpDesk.class.getModifiers()));
        Due.holds("without a package", JumpDesk.class.getPackageName().isEmpty());
        Due.part("members");
        methods();
        fields();
        constructors();
        insideClasses();
        Due.end();
    }

    private static void constants() {
        Due.due("NUMBER", JumpDesk.NUMBER, -1);
        Due.due("FULL", JumpDesk.FULL, -2);
        Due.due("MISSING", JumpDesk.MISSING, -3);
        Due.due("SIZE", JumpDesk.SIZE, -4);
        Due.due("TWICE", JumpDesk.TWICE, -5);
        Due.due("STATE", JumpDesk.STATE, -6);
        Due.due("NONE", JumpDesk.NONE, -7);
        Due.due("BEYOND", JumpDesk.BEYOND, 1152921504606846976L);
    }

    private static void methods() {
        Set<String> due = new TreeSet<>(Set.of(METHODS));
        Set<String> publicNames = new TreeSet<>();
        Set<String> privateNames = new TreeSet<>();
        for (Method m : JumpDesk.class.getDeclaredMethods()) {
            if (Modifier.isPrivate(m.getModifiers())) {
                privateNames.add(m.getName());
                continue;
            }
            publicNames.add(m.getName());
            Due.holds(m + " is public, not static", Modifier.isPublic(m.getModifiers())
                && !Modifier.isStatic(m.getModifiers()));
            Due.holds(m + " is the document's", due.remove(written(m)));
            Due.due(m + " throws", m.getExceptionTypes().length, 0);
        }
        Due.due("missing: " + due, due.size(), 0);
        privateNames.retainAll(publicNames);
        Due.due("private ones named as public ones: " + privateNames, privateNames.size(), 0);
    }

    private static String written(Method m) {
        StringBuilder text = new StringBuilder(m.getReturnType() + " " + m.getName() + "(");
        String comma = "";
        for (Class<?> type : m.getParameterTypes()) {
            text.append(comma).append(type);
            comma = ",";
        }
        return text.append(")").toString();
    }

    private static void fields() {
        Set<String> due = new TreeSet<>(Set.of("int NUMBER", "int FULL", "int MISSING", "int SIZE", "int TWICE",
            "int STATE", "int NONE", "long BEYOND"));
        for (Field f : JumpDesk.class.getDeclaredFields()) {
            if (Modifier.isStatic(f.getModifiers())) {
                Due.holds(f + " is final", Modifier.isFinal(f.getModifiers()));
            }
            if (!Modifier.isPrivate(f.getModifiers())) {
                Due.holds(f + " is public", Modifier.isPublic(f.getModifiers()));
                Due.holds(f + " is the document's", due.remove(f.getType() + " " + f.getName()));
            }
        }
        Due.due("missing: " + due, due.size(), 0);
    }

    private static void constructors() {
        Constructor<?>[] all = JumpDesk.class.getDeclaredConstructors();
        Due.due("constructors", all.length, 1);
        Due.holds("public", Modifier.isPublic(all[0].getModifiers()));
        Due.due("parameters", all[0].getParameterCount(), 0);
    }

    private static void insideClasses() {
        Class<?>[] all = JumpDesk.class.getDeclaredClasses();
        for (Class<?> inside : all) {
            int of = inside.getModifiers();
            Due.holds(inside + " isn't seen from outside", !Modifier.isPublic(of) && !Modifier.isProtected(of));
            Due.holds(inside + " is static", Modifier.isStatic(of));
        }
    }
}
