import java.lang.reflect.Constructor;
import java.lang.reflect.Field;
import java.lang.reflect.Member;
import java.lang.reflect.Method;
import java.lang.reflect.Modifier;
import java.util.Set;
import java.util.TreeSet;

/** The face is the document's and no more, and what reflection can see of LANGUAGE.md's rules holds. */
public final class FaceTest {
    private static final String[] FACE = {
        "int member(int,int,int)", "int wide(int,int)", "int delay(int,int)", "int say(int)", "int wipe()",
        "int fault()", "int judge(int)", "int done()", "int place(int,int)", "int of(int,int)", "int bells()",
        "int meets(int)", "int runs()", "int order(int,int)", "int start(int)", "int door(int,int)",
        "int grate(int)", "int rule(int,int)", "int unrule()", "int orders(int,int)", "int seen(int,int)",
        "int forget()", "int who(int)", "int look(int)", "long chance(int,int,int)", "int year(int,int,int)",
        "int image(int)", "int restore(int)", "int told(int)"};
    private static final String[] CONSTANTS = {"NONE", "UNKNOWN", "OUTSIDE", "STATE", "FULL", "NO", "LOST"};
    private static final Check check = new Check();

    public static void main(String[] args) {
        constants();
        Class<?> face = WovenRows.class;
        check.holds("the class is public", Modifier.isPublic(face.getModifiers()));
        check.holds("the class is final", Modifier.isFinal(face.getModifiers()));
        methods(face);
        fields(face);
        Constructor<?>[] constructors = face.getDeclaredConstructors();
        check.due("constructors", constructors.length, 1);
        check.holds("it is public", Modifier.isPublic(constructors[0].getModifiers()));
        check.due("its parameters", constructors[0].getParameterCount(), 0);
        Class<?>[] inside = face.getDeclaredClasses();
        check.holds("some twelve classes", inside.length + 1 <= 12);
        shape(face);
        for (Class<?> each : inside) {
            check.holds(each + " is static", Modifier.isStatic(each.getModifiers()));
            check.holds(each + " is private", Modifier.isPrivate(each.getModifiers()));
            shape(each);
        }
        check.end();
    }

    private static void constants() {
        check.due("NONE", WovenRows.NONE, -6);
        check.due("UNKNOWN", WovenRows.UNKNOWN, -1);
        check.due("OUTSIDE", WovenRows.OUTSIDE, -2);
        check.due("STATE", WovenRows.STATE, -3);
        check.due("FULL", WovenRows.FULL, -4);
        check.due("NO", WovenRows.NO, -5);
        check.due("LOST", WovenRows.LOST, -1000000000000000000L);
    }

    private static void methods(Class<?> face) {
        Set<String> due = new TreeSet<>(Set.of(FACE));
        Set<String> found = new TreeSet<>();
        Set<String> names = new TreeSet<>();
        for (Method method : face.getDeclaredMethods()) {
            if (Modifier.isPublic(method.getModifiers())) {
                StringBuilder text = new StringBuilder(method.getReturnType() + " " + method.getName() + "(");
                for (Class<?> type : method.getParameterTypes()) {
                    text.append(text.charAt(text.length() - 1) == '(' ? "" : ",").append(type);
                }
                found.add(text.append(")").toString());
                names.add(method.getName());
                check.holds(method + " is of the object", !Modifier.isStatic(method.getModifiers()));
            }
        }
        check.holds("the public methods " + found + " are " + due, found.equals(due));
        otherMethods(face, names);
        for (Class<?> inside : face.getDeclaredClasses()) {
            otherMethods(inside, names);
        }
    }

    private static void otherMethods(Class<?> one, Set<String> names) {
        for (Method method : one.getDeclaredMethods()) {
            if (!Modifier.isPublic(method.getModifiers())) {
                check.holds(method + " has no name of the face", !names.contains(method.getName()));
                check.holds(method + " is private in the outer class",
                    one != WovenRows.class || Modifier.isPrivate(method.getModifiers()));
            }
            check.holds(method + " takes seven parameters at most", method.getParameterCount() <= 7);
        }
    }

    private static void fields(Class<?> face) {
        Set<String> found = new TreeSet<>();
        for (Field field : face.getDeclaredFields()) {
            if (Modifier.isPublic(field.getModifiers())) {
                found.add(field.getName());
                check.holds(field + " is a constant", isConstant(field));
            } else {
                check.holds(field + " is private", Modifier.isPrivate(field.getModifiers()));
            }
        }
        check.holds("the public fields " + found, found.equals(new TreeSet<>(Set.of(CONSTANTS))));
    }

    private static boolean isConstant(Member field) {
        return Modifier.isStatic(field.getModifiers()) && Modifier.isFinal(field.getModifiers());
    }

    private static void shape(Class<?> one) {
        int own = 0;
        for (Field field : one.getDeclaredFields()) {
            if (Modifier.isStatic(field.getModifiers())) {
                check.holds(field + " is final", Modifier.isFinal(field.getModifiers()));
            } else {
                own++;
            }
        }
        check.holds(one + " has some twenty fields at most", own <= 20);
    }
}
