import java.lang.reflect.Constructor;
import java.lang.reflect.Field;
import java.lang.reflect.Method;
import java.lang.reflect.Modifier;
import java.util.Arrays;
import java.util.List;
import java.util.Set;
import java.util.TreeSet;

/** The face is the document's, and nothing else of the class can be seen from outside. */
public final class FaceTest {
    private static final String[] FACE = {
        "int office(int, boolean)", "int person(int, int, int, int)", "int death(int, int)",
        "int exile(int, int, int)", "int birth(int, int, int)", "int law(int, int, int, int)",
        "int repeal(int, int)", "int stone(int, int, int)", "int empty(int, int, int)",
        "int annul(int, int, int, boolean)", "int seat(int, int, int)", "int holds(int, int)",
        "int held(int, int, int)", "int could(int, int, int, int)", "int first(int, int, int, boolean)",
        "int who(int, int, boolean)", "int breaches()", "int breach(int)", "int fillings(int)",
        "int fill(int)", "int among(int, int, int)", "int election(int, int)", "int vote(int, int)",
        "int elected(long, int, int)", "int sure(long)", "int drawn(int, long, int)",
        "int province(int, int, int, int, long)", "int count(int)", "int keep(int, int, int)",
        "int make(int, int, int)", "long element(int, int)", "int copy(int, int, int, int, int)",
        "int weight(int)", "int toss(int)",
    };

    public static void main(String[] args) {
        Class<?> face = OfficeLadder.class;
        Due.isTrue("the class is public and final",
            Modifier.isPublic(face.getModifiers()) && Modifier.isFinal(face.getModifiers()));
        Set<String> due = new TreeSet<>(Arrays.asList(FACE));
        Set<String> names = new TreeSet<>();
        Set<String> seen = new TreeSet<>();
        for (Method m : face.getDeclaredMethods()) {
            if (!Modifier.isPrivate(m.getModifiers())) {
                seen.add(told(m));
                names.add(m.getName());
            }
        }
        Due.isTrue("the visible methods are " + seen, seen.equals(due));
        for (Method m : face.getDeclaredMethods()) {
            Due.isTrue("private " + m.getName() + " bears a public name",
                !Modifier.isPrivate(m.getModifiers()) || !names.contains(m.getName()));
        }
        for (Method m : face.getDeclaredMethods()) {
            if (Modifier.isPublic(m.getModifiers())) {
                List<Class<?>> told = m.getName().equals("element")
                    ? List.of(IllegalArgumentException.class, IllegalStateException.class) : List.of();
                Due.isTrue(m.getName() + " names what it throws", told.equals(List.of(m.getExceptionTypes())));
            }
        }
        for (Field f : face.getDeclaredFields()) {
            Due.isTrue("field " + f.getName() + " is private", Modifier.isPrivate(f.getModifiers()));
        }
        Constructor<?>[] made = face.getDeclaredConstructors();
        Due.is("constructors", made.length, 1);
        Due.is("the constructor's parameters", made[0].getParameterCount(), 0);
        Due.isTrue("the constructor is public", Modifier.isPublic(made[0].getModifiers()));
        for (Class<?> inside : face.getDeclaredClasses()) {
            Due.isTrue(inside.getName() + " is static and not public",
                Modifier.isStatic(inside.getModifiers()) && !Modifier.isPublic(inside.getModifiers()));
        }
        Due.end();
    }

    private static String told(Method m) {
        StringBuilder text = new StringBuilder(m.getReturnType().getName());
        text.append(' ').append(m.getName()).append('(');
        String between = "";
        for (Class<?> type : m.getParameterTypes()) {
            text.append(between).append(type.getName());
            between = ", ";
        }
        return text.append(')').toString();
    }
}
