import java.lang.reflect.Constructor;
import java.lang.reflect.Field;
import java.lang.reflect.Method;
import java.lang.reflect.Modifier;
import java.util.ArrayList;
import java.util.Collections;
import java.util.List;

/** The public face: its constants, its constructor, its methods, and nothing else that is not private. */
public final class FaceTest {
    private static final String[] METHODS = {
        "int account(int)", "int append(int)", "int barge(int,int)", "int bargeOf(int,int)", "int berth(int)",
        "int character(int)", "int close(int)", "int deep()", "int home(int)", "int homeAgain(int)", "int homeOf(int)",
        "int hottest(int)", "int isBalanced()", "int leave(int)", "int load(int,int)", "int neighbours(int)",
        "int open(int)", "int pier(int)", "int pierOf(int,int)", "int reason(boolean)", "int restore()",
        "int ring(int,int)", "int run()", "int save()", "int tell(int)", "int tellBarge(int)", "int undo()",
        "int weigh(int,int)", "int wouldClose(int)", "int wouldMove(int)",
        "double meanStretch()", "float takenShare()",
    };

    public static void main(String[] args) {
        Due due = new Due("FaceTest");
        due.is("NONE", PierRings.NONE, -11);
        due.is("BAD", PierRings.BAD, -12);
        due.is("FULL", PierRings.FULL, -13);
        due.is("REFUSED", PierRings.REFUSED, -14);
        due.is("NOTHING", PierRings.NOTHING, -15);
        due.is("public and final", PierRings.class.getModifiers(), Modifier.PUBLIC | Modifier.FINAL);
        due.isText("methods", methods().toString(), sorted(List.of(METHODS)).toString());
        due.isText("constants", fields().toString(), "[BAD, FULL, NONE, NOTHING, REFUSED]");
        due.isText("constructors", constructors().toString(), "[public PierRings()]");
        privateNamesDiffer(due);
        due.end();
    }

    private static List<String> sorted(List<String> list) {
        List<String> answer = new ArrayList<>(list);
        Collections.sort(answer);
        return answer;
    }

    private static List<String> methods() {
        List<String> found = new ArrayList<>();
        for (Method method : PierRings.class.getDeclaredMethods()) {
            if (!Modifier.isPrivate(method.getModifiers())) {
                found.add(method.toString().replace("public ", "").replace("PierRings.", ""));
            }
        }
        return sorted(found);
    }

    private static List<String> fields() {
        List<String> found = new ArrayList<>();
        for (Field field : PierRings.class.getDeclaredFields()) {
            if (!Modifier.isPrivate(field.getModifiers())) {
                found.add(field.getName());
            }
        }
        return sorted(found);
    }

    private static List<String> constructors() {
        List<String> found = new ArrayList<>();
        for (Constructor<?> constructor : PierRings.class.getDeclaredConstructors()) {
            found.add(constructor.toString());
        }
        return sorted(found);
    }

    private static void privateNamesDiffer(Due due) {
        List<Class<?>> classes = new ArrayList<>(List.of(PierRings.class.getDeclaredClasses()));
        classes.add(PierRings.class);
        for (Class<?> each : classes) {
            for (Method method : each.getDeclaredMethods()) {
                boolean isOfTheFace = each == PierRings.class && Modifier.isPublic(method.getModifiers());
                boolean hasNameOfTheFace = false;
                for (String other : METHODS) {
                    hasNameOfTheFace = hasNameOfTheFace || other.contains(" " + method.getName() + "(");
                }
                due.is("a name of the face: " + method, hasNameOfTheFace && !isOfTheFace ? 1 : 0, 0);
            }
        }
    }
}
