import java.lang.reflect.InvocationTargetException;
import java.lang.reflect.Method;
import java.lang.reflect.Modifier;
import java.util.ArrayList;
import java.util.Arrays;
import java.util.Comparator;
import java.util.List;
import java.util.function.IntSupplier;

/** What tests of single sentences have in common; EdgesTest runs them. */
abstract class EdgeCases {
    static final int NONE = AimDesk.NONE;
    static final int UNKNOWN = AimDesk.UNKNOWN;
    static final int OUTSIDE = AimDesk.OUTSIDE;
    static final int STATE = AimDesk.STATE;
    static final int FULL = AimDesk.FULL;
    static final int LEAST = Integer.MIN_VALUE;
    static final int MOST = Integer.MAX_VALUE;
    static final String LARGEST = "4;9,9;9,9;9,9;9,9;9,9";

    static final Check CHECK = new Check();
    private static String now = "";

    static void due(String call, long got, long want) {
        CHECK.due(now + call, got, want);
    }

    /** A call that must be refused so, and that changes nothing that can be seen. */
    static void refused(AimDesk x, String call, int want, IntSupplier made) {
        long ahead = x.digest();
        due(call, made.getAsInt(), want);
        due(call + " was refused; digest() behind it", x.digest(), ahead);
    }

    static AimDesk desk(String field) {
        return Check.desk(field);
    }

    static AimDesk page(String text) {
        return Check.write(new AimDesk(), text);
    }

    static void ceilings(AimDesk x, int... values) {
        for (int patch = 0; patch < values.length; patch++) {
            x.ceiling(patch, values[patch]);
        }
    }

    static void aims(AimDesk x, int... values) {
        for (int mirror = 0; mirror < values.length; mirror++) {
            x.aim(mirror, values[mirror]);
            due("aim of mirror " + mirror, x.mirror(mirror, 2), values[mirror]);
        }
    }

    /** The tests in a class, by name. */
    static List<Method> in(Class<? extends EdgeCases> cases) {
        List<Method> found = new ArrayList<>();
        for (Method method : cases.getDeclaredMethods()) {
            if (!Modifier.isPrivate(method.getModifiers()) && !method.isSynthetic()) {
                found.add(method);
            }
        }
        found.sort(Comparator.comparing(Method::getName));
        return found;
    }

    static void run(Method test) throws IllegalAccessException {
        Edge edge = test.getAnnotation(Edge.class);
        String name = test.getDeclaringClass().getName() + "." + test.getName();
        if (edge == null) {
            CHECK.due(name + " says of which sentence it is", false);
            return;
        }
        now = edge.of() + ", '" + edge.words() + "', " + name + ": ";
        try {
            test.invoke(null);
        } catch (InvocationTargetException thrown) {
            String where = Arrays.toString(thrown.getCause().getStackTrace());
            CHECK.due(now + thrown.getCause() + " at " + where, false);
        }
    }
}
