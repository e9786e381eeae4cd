import java.lang.reflect.Constructor;
import java.lang.reflect.Field;
import java.lang.reflect.Member;
import java.lang.reflect.Method;
import java.lang.reflect.Modifier;
import java.util.Arrays;
import java.util.Set;
import java.util.TreeSet;

/** The public face is the document's, and nothing else of the class can be seen. */
public final class FaceTest {
    private static final String[] FACE = {
        "boolean price(int, int, int, int)", "boolean full(int)", "int job(int, int, int)", "int go(int)",
        "int told(int, int)", "int span(int, int, int)", "long mean(int, int, int, int, int)",
        "boolean levels(int)", "boolean level(int, int, int)", "long table(int, int, int)",
        "int rule(int, int, int)", "int worst(int, int, int)", "long capped(int, int, int, int)",
        "int oracle(int)", "int count(int)", "CheapHours()", "NONE"};

    public static void main(String[] args) {
        Check check = new Check("the face");
        Set<String> seen = new TreeSet<>();
        for (Method method : CheapHours.class.getDeclaredMethods()) {
            if (isSeen(method)) {
                String types = Arrays.toString(method.getParameterTypes());
                seen.add(method.getReturnType() + " " + method.getName() + "("
                        + types.substring(1, types.length() - 1) + ")");
            }
        }
        for (Constructor<?> one : CheapHours.class.getDeclaredConstructors()) {
            if (isSeen(one)) {
                seen.add(one.getParameterCount() == 0 ? "CheapHours()" : "another constructor");
            }
        }
        for (Field field : CheapHours.class.getDeclaredFields()) {
            if (isSeen(field)) {
                seen.add(field.getName());
            }
        }
        Set<String> due = new TreeSet<>(Arrays.asList(FACE));
        if (!seen.equals(due)) {
            check.fault("seen is " + seen + ", due is " + due);
        }
        check.yes("the class is final", Modifier.isFinal(CheapHours.class.getModifiers()));
        for (Class<?> inside : CheapHours.class.getDeclaredClasses()) {
            check.yes(inside.getName() + " is static", Modifier.isStatic(inside.getModifiers()));
        }
        check.end();
    }

    private static boolean isSeen(Member member) {
        return !Modifier.isPrivate(member.getModifiers()) && !member.isSynthetic();
    }
}
