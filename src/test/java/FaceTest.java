import java.lang.reflect.Constructor;
import java.lang.reflect.Field;
import java.lang.reflect.Method;
import java.lang.reflect.Modifier;
import java.util.ArrayList;
import java.util.Arrays;
import java.util.Collections;
import java.util.HashSet;
import java.util.List;
import java.util.Set;

/** The class shows the document's face and nothing else (LANGUAGE.md, rule 1). */
public final class FaceTest {
    private static final String OUTSIDE = " IndexOutOfBoundsException";
    private static final String ILLEGAL = " IllegalArgumentException";
    private static final String UNFIT = " IllegalStateException";

    private static final String[] FACE = {
        "int begin(int,int)" + ILLEGAL,
        "int setSpan(int,int)" + OUTSIDE + ILLEGAL,
        "int setStrength(int,int)" + OUTSIDE + ILLEGAL,
        "int setCurfew(int,int)" + ILLEGAL,
        "int expect(int,int,int,int)" + ILLEGAL + UNFIT,
        "int setLeaves(int,int)" + OUTSIDE + ILLEGAL + UNFIT,
        "int pass(int)" + ILLEGAL + UNFIT,
        "int aircraft(int,int)" + OUTSIDE + ILLEGAL,
        "int stand(int,int)" + OUTSIDE + ILLEGAL,
        "int tug(int,int)" + OUTSIDE + ILLEGAL,
        "int value(int)" + ILLEGAL,
        "int event(int,int)" + OUTSIDE + ILLEGAL,
        "int why(int)" + OUTSIDE,
        "int delayOf(int)" + OUTSIDE,
        "int minutesToAll()",
        "int delaysWithTug(int)" + ILLEGAL,
        "int bestStand()",
        "double used()",
        "int append(int)" + ILLEGAL + UNFIT,
        "int clearText()",
        "int parse()",
        "int undo()" + UNFIT,
        "long digest()",
    };

    public static void main(String[] args) {
        Check check = new Check();
        List<String> shown = new ArrayList<>();
        for (Method method : StandTugs.class.getDeclaredMethods()) {
            if (!Modifier.isPrivate(method.getModifiers())) {
                check.holds(method + " is public and of an object", method.getModifiers() == Modifier.PUBLIC);
                shown.add(text(method));
            }
        }
        List<String> due = new ArrayList<>(Arrays.asList(FACE));
        Collections.sort(due);
        Collections.sort(shown);
        check.holds("the methods are " + due + ", not " + shown, due.equals(shown));
        lookAtRest(check);
        lookAtNames(check);
        check.end();
    }

    private static String text(Method method) {
        StringBuilder text = new StringBuilder();
        text.append(method.getReturnType()).append(' ').append(method.getName()).append('(');
        for (int i = 0; i < method.getParameterCount(); i++) {
            text.append(i == 0 ? "" : ",").append(method.getParameterTypes()[i]);
        }
        text.append(')');
        for (Class<?> exception : method.getExceptionTypes()) {
            text.append(' ').append(exception.getSimpleName());
        }
        return text.toString();
    }

    private static void lookAtRest(Check check) {
        check.holds("the class is public and final",
                StandTugs.class.getModifiers() == (Modifier.PUBLIC | Modifier.FINAL));
        Constructor<?>[] constructors = StandTugs.class.getDeclaredConstructors();
        check.holds("one public constructor without arguments", constructors.length == 1
                && constructors[0].getModifiers() == Modifier.PUBLIC && constructors[0].getParameterCount() == 0);
        for (Field field : StandTugs.class.getDeclaredFields()) {
            boolean isNone = field.getName().equals("NONE") && field.getType() == int.class
                    && field.getModifiers() == (Modifier.PUBLIC | Modifier.STATIC | Modifier.FINAL);
            check.holds(field + " is private", isNone || Modifier.isPrivate(field.getModifiers()));
        }
        check.due("NONE", StandTugs.NONE, -1);
    }

    private static void lookAtNames(Check check) {
        Set<String> names = new HashSet<>();
        for (Method method : StandTugs.class.getDeclaredMethods()) {
            if (Modifier.isPublic(method.getModifiers())) {
                names.add(method.getName());
            }
        }
        for (Method method : StandTugs.class.getDeclaredMethods()) {
            check.holds(method + " has a name of its own",
                    Modifier.isPublic(method.getModifiers()) || !names.contains(method.getName()));
        }
        for (Class<?> inside : StandTugs.class.getDeclaredClasses()) {
            check.holds(inside + " is static and not shown", Modifier.isStatic(inside.getModifiers())
                    && (inside.getModifiers() & (Modifier.PUBLIC | Modifier.PROTECTED)) == 0);
            for (Method method : inside.getDeclaredMethods()) {
                check.holds(method + " has a name of its own", !names.contains(method.getName()));
            }
        }
    }
}
