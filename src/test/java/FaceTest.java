import java.lang.reflect.Constructor;
import java.lang.reflect.Field;
import java.lang.reflect.Member;
import java.lang.reflect.Method;
import java.lang.reflect.Modifier;
import java.util.ArrayList;
import java.util.List;
import java.util.TreeSet;

/** The class has the document's face, and no other member that is not private. */
final class FaceTest {
    private static final String[] METHODS = {
        "int add(int, int)", "boolean need(int, int)", "int wish(int, int, int)", "int standIn(int, int)",
        "boolean hold(int, boolean)", "int setFaults(int, int)", "int setTime(int, int)", "int units()",
        "int learned(int)", "int faults(int)", "int begin(int)", "int tick(int)", "boolean goesOn()",
        "int state(int)", "int waitsFor(int)", "int bar()", "int ready()", "int canRun()"
    };
    private static final String[] CONSTANTS = {"NONE", "WAITING", "STARTING", "READY", "FAILED", "HELD"};

    private FaceTest() {
    }

    public static void main(String[] args) {
        constants();
        methods();
        fields();
        classAndConstructor();
        Check.finish();
    }

    private static void constants() {
        Check.due("NONE", BootStage.NONE, -1);
        Check.due("WAITING", BootStage.WAITING, 0);
        Check.due("STARTING", BootStage.STARTING, 1);
        Check.due("READY", BootStage.READY, 2);
        Check.due("FAILED", BootStage.FAILED, 3);
        Check.due("HELD", BootStage.HELD, 4);
    }

    private static void methods() {
        TreeSet<String> found = new TreeSet<>();
        List<String> privates = new ArrayList<>();
        for (Method method : BootStage.class.getDeclaredMethods()) {
            if (isHidden(method)) {
                privates.add(method.getName());
            } else {
                Check.due(method.getName() + " is public and of the object",
                        method.getModifiers(), Modifier.PUBLIC);
                found.add(signature(method));
            }
        }
        TreeSet<String> want = new TreeSet<>(List.of(METHODS));
        Check.dueText("the public methods", found.toString(), want.toString());
        for (String signature : METHODS) {
            String name = signature.substring(signature.indexOf(' ') + 1, signature.indexOf('('));
            Check.due("a private method bears the name " + name, privates.contains(name), false);
        }
    }

    private static String signature(Method method) {
        List<String> parameters = new ArrayList<>();
        for (Class<?> parameter : method.getParameterTypes()) {
            parameters.add(parameter.getName());
        }
        return method.getReturnType().getName() + " " + method.getName()
                + "(" + String.join(", ", parameters) + ")";
    }

    private static void fields() {
        TreeSet<String> found = new TreeSet<>();
        for (Field field : BootStage.class.getDeclaredFields()) {
            if (!isHidden(field)) {
                found.add(field.getName());
                Check.due(field.getName() + " is public static final", field.getModifiers(),
                        Modifier.PUBLIC | Modifier.STATIC | Modifier.FINAL);
            }
        }
        Check.dueText("the public fields", found.toString(), new TreeSet<>(List.of(CONSTANTS)).toString());
    }

    private static void classAndConstructor() {
        Check.due("the class is public and final", BootStage.class.getModifiers(),
                Modifier.PUBLIC | Modifier.FINAL);
        Constructor<?>[] made = BootStage.class.getDeclaredConstructors();
        Check.due("constructors", made.length, 1);
        Check.due("the constructor is public", made[0].getModifiers(), Modifier.PUBLIC);
        Check.due("the constructor's parameters", made[0].getParameterCount(), 0);
        for (Class<?> inside : BootStage.class.getDeclaredClasses()) {
            Check.due(inside.getName() + " is static", Modifier.isStatic(inside.getModifiers()), true);
            Check.due(inside.getName() + " is public", Modifier.isPublic(inside.getModifiers()), false);
        }
    }

    private static boolean isHidden(Member member) {
        return Modifier.isPrivate(member.getModifiers()) || member.isSynthetic();
    }
}
