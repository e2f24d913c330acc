import java.io.IOException;
import java.lang.reflect.Field;
import java.lang.reflect.Modifier;
import java.nio.file.Files;
import java.nio.file.Path;
import java.util.ArrayList;
import java.util.LinkedHashMap;
import java.util.List;
import java.util.Map;
import java.util.Set;
import java.util.regex.Matcher;
import java.util.regex.Pattern;

/** Those rules of LANGUAGE.md that can be seen in the program's text. */
public final class RulesTest {
    private static final Check CHECK = new Check();
    private static final String[] FORBIDDEN = {"\\bthrow\\b", "\\bthrows\\b", "\\btry\\b", "\\bcatch\\b",
        "\\bsynchronized\\b", "\\bassert\\b", "->", "::", "\\bprotected\\b", "\\bpackage\\b", "\\bstatic\\s*\\{",
        "\\bSystem\\.(?!arraycopy)", "\\bThread\\b", "\\bRandom\\b", "\\bObject\\b", "\\bvar\\b", "Exact\\("};
    private static final Set<String> LIBRARY = Set.of("java.util.Arrays", "java.util.ArrayList", "java.util.List",
        "java.util.Iterator");
    private static final Set<Class<?>> STATIC_TYPES = Set.of(int.class, long.class, boolean.class, char.class,
        String.class, int[].class, long[].class, char[].class, byte[].class);
    private static final Pattern METHOD =
        Pattern.compile("(?m)^ +(?:public |private )(?:static )?[\\w\\[\\]]+ (\\w+)\\([^)]*\\) \\{");
    /** Only a method that calls itself may go deeper than this. */
    private static final int DEEPEST = 8;

    private static final Map<String, String> BODIES = new LinkedHashMap<>();

    public static void main(String[] args) throws IOException {
        String source = Files.readString(Path.of(System.getProperty("source", "src/main/java/AimDesk.java")));
        CHECK.due("signs 10 and 32 to 126", source.chars().allMatch(c -> c == '\n' || c >= 32 && c <= 126));
        String code = source.replaceAll("(?s)/\\*.*?\\*/", "").replaceAll("//[^\n]*", "");
        words(code);
        methods(code);
        calls();
        fields(AimDesk.class);
        for (Class<?> inside : AimDesk.class.getDeclaredClasses()) {
            fields(inside);
        }
        CHECK.finish();
    }

    private static void words(String code) {
        for (String word : FORBIDDEN) {
            CHECK.due("no " + word, !Pattern.compile(word).matcher(code).find());
        }
        Matcher imports = Pattern.compile("import ([^;]*);").matcher(code);
        while (imports.find()) {
            CHECK.due("import " + imports.group(1), LIBRARY.contains(imports.group(1)));
        }
    }

    private static void methods(String code) {
        Matcher method = METHOD.matcher(code);
        while (method.find()) {
            String body = code.substring(method.end() - 1, endOfBlock(code, method.end() - 1));
            CHECK.due("one method bears the name " + method.group(1), BODIES.put(method.group(1), body) == null);
            CHECK.due(method.group(1) + " is short", body.lines().count() <= 60);
        }
        CHECK.due("methods were found", BODIES.size() > 17);
    }

    private static int endOfBlock(String code, int start) {
        int open = 0;
        for (int i = start; i < code.length(); i++) {
            open += code.charAt(i) == '{' ? 1 : code.charAt(i) == '}' ? -1 : 0;
            if (open == 0) {
                return i + 1;
            }
        }
        return code.length();
    }

    private static void calls() {
        for (String name : BODIES.keySet()) {
            List<String> chain = deepest(name, List.of());
            CHECK.due("calls go at most " + DEEPEST + " deep: " + chain, chain.size() <= DEEPEST);
        }
    }

    /** The longest chain of calls that begins with these and this one. */
    private static List<String> deepest(String name, List<String> ahead) {
        List<String> chain = new ArrayList<>(ahead);
        chain.add(name);
        List<String> longest = chain;
        Matcher called = Pattern.compile("\\b(\\w+)\\(").matcher(BODIES.get(name));
        while (called.find()) {
            String next = called.group(1);
            CHECK.due("only itself again: " + chain + " " + next, next.equals(name) || !chain.contains(next));
            if (BODIES.containsKey(next) && !chain.contains(next)) {
                List<String> deeper = deepest(next, chain);
                longest = deeper.size() > longest.size() ? deeper : longest;
            }
        }
        return longest;
    }

    private static void fields(Class<?> one) {
        int own = 0;
        for (Field field : one.getDeclaredFields()) {
            if (!Modifier.isStatic(field.getModifiers())) {
                own++;
                continue;
            }
            CHECK.due("final: " + field, Modifier.isFinal(field.getModifiers()));
            CHECK.due("a type that a static field may have: " + field, STATIC_TYPES.contains(field.getType()));
        }
        CHECK.due("fields of " + one + ": " + own, own <= 20);
    }
}
