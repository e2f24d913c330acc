import java.lang.reflect.Constructor;
import java.lang.reflect.Field;
import java.lang.reflect.Method;
import java.lang.reflect.Modifier;
import java.util.Set;
import java.util.TreeSet;

/** The public face of the document, and those rules of LANGUAGE.md that can be seen from outside. */
public final class FaceTest {
    private static final Check CHECK = new Check();
    private static final Set<String> FACE = Set.of("int letter(int)", "int blank()", "int fault()", "int field()",
        "int ceiling(int,int)", "int shade(int)", "int stuck(int,boolean)", "int aim(int,int)", "int mirror(int,int)",
        "int patch(int,int)", "int best(boolean,int)", "int change(boolean,int)", "int go(boolean)", "int trade(int)",
        "int relief()", "int count(int)", "long digest()");

    public static void main(String[] args) {
        face();
        constants();
        members();
        CHECK.finish();
    }

    private static void face() {
        Set<String> found = new TreeSet<>();
        for (Method method : AimDesk.class.getDeclaredMethods()) {
            if (Modifier.isPublic(method.getModifiers())) {
                String types = String.join(",", java.util.Arrays.stream(method.getParameterTypes()).map(Class::getName).toList());
                found.add(method.getReturnType().getName() + " " + method.getName() + "(" + types + ")");
            }
        }
        CHECK.due("the public methods are " + found, found.equals(new TreeSet<>(FACE)));
        CHECK.due("public and final", Modifier.isPublic(AimDesk.class.getModifiers()) && Modifier.isFinal(AimDesk.class.getModifiers()));
        Constructor<?>[] made = AimDesk.class.getDeclaredConstructors();
        CHECK.due("constructors", made.length, 1);
        CHECK.due("the constructor takes", made[0].getParameterCount(), 0);
        CHECK.due("it is public", Modifier.isPublic(made[0].getModifiers()));
    }

    private static void constants() {
        CHECK.due("NONE", AimDesk.NONE, -1001);
        CHECK.due("UNKNOWN", AimDesk.UNKNOWN, -1002);
        CHECK.due("OUTSIDE", AimDesk.OUTSIDE, -1003);
        CHECK.due("STATE", AimDesk.STATE, -1004);
        CHECK.due("FULL", AimDesk.FULL, -1005);
    }

    private static void members() {
        Set<String> constants = Set.of("NONE", "UNKNOWN", "OUTSIDE", "STATE", "FULL");
        for (Field field : AimDesk.class.getDeclaredFields()) {
            boolean open = constants.contains(field.getName());
            CHECK.due("field " + field.getName(), Modifier.isPrivate(field.getModifiers()) != open);
        }
        dueWithin(AimDesk.class);
        for (Class<?> inside : AimDesk.class.getDeclaredClasses()) {
            CHECK.due("static " + inside, Modifier.isStatic(inside.getModifiers()) && !Modifier.isPublic(inside.getModifiers()));
            dueWithin(inside);
        }
        CHECK.due("classes", AimDesk.class.getDeclaredClasses().length < 12);
    }

    private static void dueWithin(Class<?> one) {
        Set<String> names = new TreeSet<>();
        FACE.forEach(method -> names.add(method.replaceAll(".* |\\(.*", "")));
        for (Method method : one.getDeclaredMethods()) {
            boolean own = !Modifier.isPublic(method.getModifiers());
            CHECK.due("private " + method, !own || Modifier.isPrivate(method.getModifiers()));
            CHECK.due("no name of the face: " + method, !own || !names.contains(method.getName()));
            CHECK.due("at most seven parameters: " + method, method.getParameterCount() <= 7);
        }
    }
}
