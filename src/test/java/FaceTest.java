import java.lang.reflect.Constructor;
import java.lang.reflect.Field;
import java.lang.reflect.Method;
import java.lang.reflect.Modifier;
import java.util.Arrays;
import java.util.Set;
import java.util.TreeSet;

/** The class has the document's face and no other member that is not private. */
public final class FaceTest {
    private static final String[] FACE = {
        "int dress(int)", "int ring(int,int)", "int line(int,int)", "int may(int,int)", "int pin(int,int)",
        "int ease(int,int)", "int fit(int)", "int lacks()", "int bestPin(int,int)", "int least(int,int)",
        "int first(int)", "int orders(int,int)", "int hem(int,int,int)", "int darts(int,int,int,int)",
        "int stripes(int,int,int,int)", "int measures(int,int)", "int sizes(int,int,int)", "int old(int)",
        "int shape(int,int)", "int seeded(int,int,int)", "int judge(int,int)", "int image()", "int restore()",
        "int count(int)", "int keep(int,int,int,int)", "int row(int,int,int)", "int put(int,int,int)",
        "long element(int,int)", "int copy(int,int,int,int,int)", "int minutes(int)", "int toss(int)"};

    private static final String ELEMENT_THROWS =
        Arrays.asList(IllegalArgumentException.class, IllegalStateException.class).toString();

    public static void main(String[] args) {
        Due due = new Due();
        due.of(0, "The public face");
        Set<String> seen = new TreeSet<>();
        Set<String> publicNames = new TreeSet<>();
        for (Method m : PinnedToFit.class.getDeclaredMethods()) {
            if (!Modifier.isPrivate(m.getModifiers())) {
                due.is(m + " is public, no static", m.getModifiers(), Modifier.PUBLIC);
                due.same("throws of " + m, Arrays.toString(m.getExceptionTypes()),
                    m.getName().equals("element") ? ELEMENT_THROWS : "[]");
                seen.add(told(m));
                publicNames.add(m.getName());
            }
        }
        due.same("the face", seen.toString(), new TreeSet<>(Arrays.asList(FACE)).toString());
        for (Method m : PinnedToFit.class.getDeclaredMethods()) {
            if (Modifier.isPrivate(m.getModifiers())) {
                due.is(m + " bears a public name", publicNames.contains(m.getName()) ? 1 : 0, 0);
            }
        }
        for (Field f : PinnedToFit.class.getDeclaredFields()) {
            due.is(f + " is private", Modifier.isPrivate(f.getModifiers()) ? 1 : 0, 1);
            if (Modifier.isStatic(f.getModifiers())) {
                due.is(f + " is final", Modifier.isFinal(f.getModifiers()) ? 1 : 0, 1);
            }
        }
        Constructor<?>[] constructors = PinnedToFit.class.getDeclaredConstructors();
        due.is("constructors", constructors.length, 1);
        due.is("parameters of the constructor", constructors[0].getParameterCount(), 0);
        due.is("the constructor is public", constructors[0].getModifiers(), Modifier.PUBLIC);
        due.is("the class is public and final", PinnedToFit.class.getModifiers(), Modifier.PUBLIC | Modifier.FINAL);
        for (Class<?> inside : PinnedToFit.class.getDeclaredClasses()) {
            int wrong = inside.getModifiers() & (Modifier.PUBLIC | Modifier.PROTECTED);
            due.is(inside + " is not public", wrong, 0);
        }
        due.end(0, 0);
    }

    private static String told(Method m) {
        StringBuilder told = new StringBuilder(m.getReturnType().getName()).append(' ').append(m.getName()).append('(');
        for (int k = 0; k < m.getParameterCount(); k++) {
            told.append(k == 0 ? "" : ",").append(m.getParameterTypes()[k].getName());
        }
        return told.append(')').toString();
    }
}
