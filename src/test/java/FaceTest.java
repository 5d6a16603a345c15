import java.lang.reflect.Constructor;
import java.lang.reflect.Field;
import java.lang.reflect.Method;
import java.lang.reflect.Modifier;
import java.util.ArrayList;
import java.util.Arrays;
import java.util.Collections;
import java.util.List;

/** The public face: the document's constants, constructor and methods, and no other. */
public final class FaceTest {
    private static final String[] FACE = {
        "int NONE", "int OFFERED", "int GIVEN", "int DONE", "int LATE", "CraneYard()",
        "int arrive(int,int,int)", "int lift(int)", "int drop(int)", "int dig(int)", "int crane()",
        "int height(int)", "int at(int,int)", "int stackOf(int)", "int lifts()", "int fewestLifts(int)",
        "int tell(int,int,int,int)", "boolean hasPaid(int)", "int bonus()", "int offer(int,int)",
        "void bid(int,int,int)", "int give(int)", "int load()", "int state(int)", "int storm()", "int pass(int)",
        "int today()", "int balance()",
    };

    public static void main(String[] args) {
        Check check = new Check();
        List<String> due = new ArrayList<>(Arrays.asList(FACE));
        Collections.sort(due);
        List<String> got = visibleMembers();
        check.yes("the face " + got + " is " + due, got.equals(due));
        check.yes("the class is public and final",
                Modifier.isPublic(CraneYard.class.getModifiers()) && Modifier.isFinal(CraneYard.class.getModifiers()));
        check.same("NONE", CraneYard.NONE, -1);
        check.same("OFFERED", CraneYard.OFFERED, 0);
        check.same("GIVEN", CraneYard.GIVEN, 1);
        check.same("DONE", CraneYard.DONE, 2);
        check.same("LATE", CraneYard.LATE, 3);
        check.finish();
    }

    private static List<String> visibleMembers() {
        List<String> members = new ArrayList<>();
        for (Field field : CraneYard.class.getDeclaredFields()) {
            if (!Modifier.isPrivate(field.getModifiers())) {
                members.add(field.getType() + " " + field.getName());
            }
        }
        for (Constructor<?> constructor : CraneYard.class.getDeclaredConstructors()) {
            members.add("CraneYard" + parameters(constructor.getParameterTypes()));
        }
        for (Method method : CraneYard.class.getDeclaredMethods()) {
            if (!Modifier.isPrivate(method.getModifiers())) {
                members.add(method.getReturnType() + " " + method.getName() + parameters(method.getParameterTypes()));
            }
        }
        Collections.sort(members);
        return members;
    }

    private static String parameters(Class<?>[] types) {
        List<String> names = new ArrayList<>();
        for (Class<?> type : types) {
            names.add(type.getName());
        }
        return "(" + String.join(",", names) + ")";
    }
}
