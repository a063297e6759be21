import java.lang.reflect.Constructor;
import java.lang.reflect.Field;
import java.lang.reflect.Method;
import java.lang.reflect.Modifier;
import java.util.ArrayList;
import java.util.Arrays;
import java.util.List;
import java.util.TreeSet;

/** The public face is that of the document, and nothing beside it is seen from outside. */
public final class FaceTest {
    private static final String[] METHODS = {
        "int frame(int)", "int version(int)", "int report(int)", "boolean pair(int,int,boolean)", "boolean free(int,int)",
        "boolean mark(int)", "int resettle()", "int distance(int,int)", "int heap(int)", "int cost(int,int)",
        "int row(int,int)", "int common(int)", "int sign(int)", "int signed(int)", "boolean fix(int,int)",
        "int look(int,int)", "int behind(int,int)", "int count(int)",
    };

    public static void main(String[] args) {
        Due due = new Due();
        Class<FaultHeaps> face = FaultHeaps.class;
        due.same("NONE", FaultHeaps.NONE, -1);
        due.yes("the class is public and final", Modifier.isPublic(face.getModifiers()) && Modifier.isFinal(face.getModifiers()));
        due.yes("the methods", seenMethods(face).equals(new TreeSet<>(Arrays.asList(METHODS))));
        due.yes("the fields", seenFields(face).equals(List.of("NONE")));
        Constructor<?>[] made = face.getDeclaredConstructors();
        due.yes("one public constructor", made.length == 1 && made[0].getParameterCount() == 0 && Modifier.isPublic(made[0].getModifiers()));
        for (Class<?> inside : face.getDeclaredClasses()) {
            due.yes(inside.getName() + " is static", Modifier.isStatic(inside.getModifiers()));
            due.no(inside.getName() + " is public", Modifier.isPublic(inside.getModifiers()));
        }
        due.yes("no private method bears a public one's name", namesAreApart(face));
        due.end("FaceTest");
    }

    private static TreeSet<String> seenMethods(Class<?> face) {
        TreeSet<String> seen = new TreeSet<>();
        for (Method m : face.getDeclaredMethods()) {
            if (!Modifier.isPrivate(m.getModifiers())) {
                List<String> takes = new ArrayList<>();
                for (Class<?> type : m.getParameterTypes()) {
                    takes.add(type.getName());
                }
                String other = Modifier.isPublic(m.getModifiers()) && !Modifier.isStatic(m.getModifiers()) ? "" : "not public: ";
                seen.add(other + m.getReturnType().getName() + " " + m.getName() + "(" + String.join(",", takes) + ")");
            }
        }
        return seen;
    }

    private static List<String> seenFields(Class<?> face) {
        List<String> seen = new ArrayList<>();
        for (Field f : face.getDeclaredFields()) {
            if (!Modifier.isPrivate(f.getModifiers())) {
                seen.add(f.getName());
            }
        }
        return seen;
    }

    private static boolean namesAreApart(Class<?> face) {
        TreeSet<String> seen = new TreeSet<>();
        for (Method m : face.getDeclaredMethods()) {
            if (!seen.add(m.getName())) {
                return false;
            }
        }
        return true;
    }
}
