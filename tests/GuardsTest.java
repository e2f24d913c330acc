import java.lang.reflect.Field;
import java.lang.reflect.InvocationTargetException;
import java.lang.reflect.Method;
import java.lang.reflect.Modifier;
import java.util.ArrayList;
import java.util.LinkedHashMap;
import java.util.List;
import java.util.Map;

/**
 * Each index is looked at where it is used: every method of the class and of the classes inside it is called with
 * numbers that no call of the face would hand it, and none may throw. Only the state of the objects is left as it can
 * be; so what is looked at is that no method trusts its arguments.
 */
public final class GuardsTest {
    private static final Check CHECK = new Check();
    private static final int[] WILD = {Integer.MIN_VALUE, -3126, -1, 0, 1, 4, 5, 21, 3124, 3125, Integer.MAX_VALUE};
    private static final String FULL_PAGE = "4;9,9;9,9;9,9;9,9;9,9";
    private static final String[] FIELDS = {"1;1,0", FULL_PAGE, "3;9,3;8,2;7,4", ""};

    public static void main(String[] args) throws ReflectiveOperationException {
        int methods = 0;
        List<Class<?>> classes = new ArrayList<>(List.of(AimDesk.class.getDeclaredClasses()));
        classes.add(AimDesk.class);
        for (Class<?> one : classes) {
            for (Method method : one.getDeclaredMethods()) {
                if (!method.isSynthetic()) {
                    method.setAccessible(true);
                    callWildly(method);
                    methods++;
                }
            }
        }
        System.out.println(methods + " methods called");
        CHECK.due("methods were found", methods > 17);
        CHECK.finish();
    }

    /** Each argument by itself goes through all wild numbers, and all of them at once. */
    private static void callWildly(Method method) throws ReflectiveOperationException {
        for (String field : FIELDS) {
            for (int turned = -1; turned < method.getParameterCount(); turned++) {
                for (int number : WILD) {
                    callWildly(method, field, turned, number);
                }
            }
        }
    }

    private static void callWildly(Method method, String field, int turned, int number) throws ReflectiveOperationException {
        AimDesk desk = field.isEmpty() ? new AimDesk() : Check.write(Check.desk(field), FULL_PAGE);
        Map<Class<?>, Object> parts = partsOf(desk);
        Class<?>[] types = method.getParameterTypes();
        Object[] arguments = new Object[types.length];
        for (int i = 0; i < types.length; i++) {
            boolean wild = turned == -1 || turned == i;
            arguments[i] = argument(types[i], wild ? number : 0, parts);
        }
        Object on = Modifier.isStatic(method.getModifiers()) ? null : parts.get(method.getDeclaringClass());
        String call = method.getName() + java.util.Arrays.toString(arguments) + " with field '" + field + "'";
        try {
            method.invoke(on, arguments);
            CHECK.due(call, true);
        } catch (InvocationTargetException thrown) {
            CHECK.due(call + ": " + thrown.getCause(), false);
        }
    }

    private static Object argument(Class<?> type, int number, Map<Class<?>, Object> parts) {
        if (type == int.class) {
            return number;
        }
        if (type == long.class) {
            return (long) number;
        }
        if (type == boolean.class) {
            return number > 0;
        }
        return type == int[].class ? new int[Math.floorMod(number, 7)] : parts.get(type);
    }

    /** The object, and of each class inside it one that it holds, or that these hold. */
    private static Map<Class<?>, Object> partsOf(AimDesk desk) throws ReflectiveOperationException {
        Map<Class<?>, Object> parts = new LinkedHashMap<>();
        List<Object> open = new ArrayList<>(List.of(desk));
        while (!open.isEmpty()) {
            Object one = open.remove(0);
            parts.put(one.getClass(), one);
            for (Field field : one.getClass().getDeclaredFields()) {
                boolean inside = field.getType().getDeclaringClass() == AimDesk.class;
                if (inside && !Modifier.isStatic(field.getModifiers())) {
                    field.setAccessible(true);
                    open.add(field.get(one));
                }
            }
        }
        return parts;
    }
}
