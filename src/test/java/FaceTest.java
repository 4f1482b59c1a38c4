import java.lang.reflect.Constructor;
import java.lang.reflect.Field;
import java.lang.reflect.Method;
import java.lang.reflect.Modifier;
import java.util.Arrays;
import java.util.Set;
import java.util.TreeSet;

/** The face is the document's, member by member, and no private method bears a public one's name. */
public final class FaceTest {
    private static final String I = "java.lang.IllegalArgumentException";
    private static final String S = "java.lang.IllegalStateException";
    private static final String X = "java.lang.IndexOutOfBoundsException";

    private static final String[] FACE = {
        "int addBooth(int, int, int, int) " + I + " " + S,
        "int addHelper() " + S,
        "int come(int, int) " + I + " " + S,
        "int setDart(int) " + I,
        "int work(int, int) " + X,
        "int bring(int, int) " + X + " " + I + " " + S,
        "int sell(int, int) " + X + " " + I,
        "int leave(int) " + X,
        "int booth(int, int) " + X,
        "int queue(int, int) " + X,
        "int helper(int, int) " + X,
        "int visitor(int, int) " + X,
        "int practice(int, int) " + X,
        "int board(int, int) " + X,
        "int pass(int) " + I,
        "int count(int) " + X,
        "int foresee(int, int, int) " + X + " " + I,
        "int closes(int) " + X,
        "int advise(int, int) " + X + " " + I,
        "double luck()",
        "long digest()",
    };

    private static int wrong = 0;

    private static void fault(String text) {
        wrong++;
        System.out.println(text);
    }

    private static String names(Class<?>[] types, String between) {
        StringBuilder text = new StringBuilder();
        for (Class<?> type : types) {
            text.append(text.length() == 0 ? "" : between).append(type.getName());
        }
        return text.toString();
    }

    private static String told(Method m) {
        return (m.getReturnType() + " " + m.getName() + "(" + names(m.getParameterTypes(), ", ") + ") "
                + names(m.getExceptionTypes(), " ")).trim();
    }

    public static void main(String[] args) {
        Class<?> face = FeteBoard.class;
        if (!Modifier.isPublic(face.getModifiers()) || !Modifier.isFinal(face.getModifiers())) {
            fault("the class is not public and final");
        }
        Set<String> want = new TreeSet<>(Arrays.asList(FACE));
        Set<String> got = new TreeSet<>();
        Set<String> publicNames = new TreeSet<>();
        for (Method m : face.getDeclaredMethods()) {
            if (Modifier.isPublic(m.getModifiers()) && !Modifier.isStatic(m.getModifiers())) {
                got.add(told(m));
                publicNames.add(m.getName());
            }
        }
        if (!want.equals(got)) {
            fault("the face is " + got + ", due is " + want);
        }
        checkHidden(face, publicNames);
        for (Constructor<?> c : face.getDeclaredConstructors()) {
            if (!Modifier.isPublic(c.getModifiers()) || c.getParameterCount() != 0) {
                fault("not the document's: " + c);
            }
        }
        System.out.println(wrong == 0 ? "the face is the document's" : wrong + " faults in the face");
        if (wrong != 0) {
            System.exit(1);
        }
    }

    private static void checkHidden(Class<?> face, Set<String> publicNames) {
        for (Field f : face.getDeclaredFields()) {
            if (!Modifier.isPrivate(f.getModifiers())) {
                fault("not private: " + f);
            }
            if (Modifier.isStatic(f.getModifiers()) && !Modifier.isFinal(f.getModifiers())) {
                fault("static, but not final: " + f);
            }
        }
        checkMethods(face, publicNames);
        for (Class<?> inside : face.getDeclaredClasses()) {
            if (Modifier.isPublic(inside.getModifiers()) || Modifier.isProtected(inside.getModifiers())) {
                fault("not hidden: " + inside);
            }
            checkMethods(inside, publicNames);
        }
    }

    private static void checkMethods(Class<?> type, Set<String> publicNames) {
        for (Method m : type.getDeclaredMethods()) {
            boolean ofTheFace = type == FeteBoard.class && Modifier.isPublic(m.getModifiers());
            if (type == FeteBoard.class && !ofTheFace && !Modifier.isPrivate(m.getModifiers())) {
                fault("neither public nor private: " + m);
            }
            if (!ofTheFace && publicNames.contains(m.getName())) {
                fault("bears a public name: " + m);
            }
            if (m.getParameterCount() > 7) {
                fault("too many parameters: " + m);
            }
        }
    }
}
