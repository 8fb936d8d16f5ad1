import java.lang.reflect.Field;
import java.lang.reflect.Method;
import java.lang.reflect.Modifier;
import java.util.ArrayList;
import java.util.List;
import java.util.Map;
import java.util.Set;
import java.util.TreeSet;
import java.util.regex.Matcher;
import java.util.regex.Pattern;

/** LANGUAGE.md, rule by rule, as far as the program's text and its classes show it. */
final class LanguageTest {
    /** Each is a sign of what the rules leave out. */
    private static final List<String> FORBIDDEN = List.of(
        "import ", "package ", "->", "::", "catch", "finally", "try ", "synchronized", "assert ", "instanceof", "record ",
        "Exact(", "hashCode", "equals(", "toString", "native ", "volatile ", "static {", "while (true)", "for (;;)",
        "Random", "Thread", "nanoTime", "currentTimeMillis", "getMessage", "sealed ", "var ", "\" +", "+ \"");
    private static final Set<String> LIBRARY = Set.of("Math", "System", "IllegalStateException", "IllegalArgumentException",
        "IndexOutOfBoundsException");
    private static final Set<String> CALLS_OF_IT = Set.of("Math.max", "Math.min", "System.arraycopy");
    private static final Set<Class<?>> CONSTANTS = Set.of(int.class, long.class, boolean.class, char.class, String.class);
    private static final int CLASSES_MOST = 12;
    private static final int FIELDS_MOST = 20;
    private static final int PARAMETERS_MOST = 7;
    private static final int METHOD_MOST = 60;
    private static final int DEEPEST = 8;

    private LanguageTest() {
    }

    static void all() {
        String text = SourceText.of(SourceText.PROGRAM);
        String bare = SourceText.bare(text);
        Check.begin("LANGUAGE.md");
        Check.no("the program's text can't be read", text.isEmpty());
        Check.yes("signs of 1 to 127", text.chars().allMatch(sign -> sign > 0 && sign < 128));
        for (String sign : FORBIDDEN) {
            Check.no("'" + sign + "' in the text", bare.contains(sign));
        }
        classes();
        library(bare);
        exceptions(text, bare);
        objects(bare);
        Check.begin("LANGUAGE.md, rule 11");
        Check.yes("the longest method is of some sixty lines", SourceText.longestMethod(text) <= METHOD_MOST);
        depth(SourceText.methods(bare));
    }

    private static List<Class<?>> allClasses() {
        List<Class<?>> all = new ArrayList<>();
        all.add(ScopeRow.class);
        for (int i = 0; i < all.size(); i++) {
            all.addAll(List.of(all.get(i).getDeclaredClasses()));
        }
        return all;
    }

    private static void classes() {
        Check.begin("LANGUAGE.md, rules 1, 2, 5 and 11");
        List<Class<?>> all = allClasses();
        Check.yes("some twelve classes", all.size() <= CLASSES_MOST);
        for (Class<?> one : all) {
            int is = one.getModifiers();
            boolean isFace = one == ScopeRow.class;
            Check.yes(one + " is static", isFace || Modifier.isStatic(is));
            Check.yes(one + " is private or package-visible", isFace || !Modifier.isPublic(is) && !Modifier.isProtected(is));
            int fields = 0;
            for (Field field : one.getDeclaredFields()) {
                boolean isConstant = Modifier.isStatic(field.getModifiers());
                fields += isConstant ? 0 : 1;
                Check.yes(field + " is final, if static", !isConstant || Modifier.isFinal(field.getModifiers()));
                Check.yes(field + " is a constant, if static", !isConstant || CONSTANTS.contains(field.getType()));
            }
            Check.yes("some twenty fields of " + one, fields <= FIELDS_MOST);
            for (Method method : one.getDeclaredMethods()) {
                Check.yes("parameters of " + method, method.getParameterCount() <= PARAMETERS_MOST);
            }
        }
    }

    private static void library(String bare) {
        Check.begin("LANGUAGE.md, rule 4");
        Set<String> own = new TreeSet<>();
        for (Class<?> one : allClasses()) {
            own.add(one.getSimpleName());
        }
        Matcher types = Pattern.compile("\\b[A-Z]\\w*[a-z]\\w*").matcher(bare);
        while (types.find()) {
            Check.yes(types.group() + " is its own, or of the library", own.contains(types.group()) || LIBRARY.contains(types.group()));
        }
        Matcher calls = Pattern.compile("\\b(?:Math|System)\\.\\w+").matcher(bare);
        while (calls.find()) {
            Check.yes(calls.group() + " is of the library", CALLS_OF_IT.contains(calls.group()));
        }
    }

    private static void exceptions(String text, String bare) {
        Check.begin("LANGUAGE.md, rule 6");
        Pattern written = Pattern.compile("throw new \\w+\\(\"[^\"\\n]*\"\\);");
        long whole = written.matcher(text).results().count();
        Check.due("each throw is a new one with a written text", whole, Pattern.compile("\\bthrow\\b").matcher(bare).results().count());
        Check.no("none in a constructor", SourceText.methods(bare).getOrDefault("State", "throw").contains("throw"));
    }

    /** All objects are made with the one that holds them, none by a call. */
    private static void objects(String bare) {
        Check.begin("LANGUAGE.md, rule 12");
        Map<String, String> methods = SourceText.methods(bare);
        Check.yes("the methods were found", methods.size() > 100);
        for (Map.Entry<String, String> method : methods.entrySet()) {
            boolean isConstructor = Character.isUpperCase(method.getKey().charAt(0));
            String rest = method.getValue().replace("throw new", "");
            Check.yes(method.getKey() + " makes no object", isConstructor || !rest.contains("new ") && !rest.contains("{\""));
        }
    }

    private static void depth(Map<String, String> methods) {
        Map<String, Set<String>> calls = new java.util.HashMap<>();
        Pattern call = Pattern.compile("(\\w+)\\(");
        for (Map.Entry<String, String> method : methods.entrySet()) {
            Set<String> names = new TreeSet<>();
            Matcher found = call.matcher(method.getValue());
            while (found.find()) {
                // One of the same name is another class's: copyFrom is, of what a class holds.
                if (methods.containsKey(found.group(1)) && !found.group(1).equals(method.getKey())) {
                    names.add(found.group(1));
                }
            }
            calls.put(method.getKey(), names);
        }
        for (Method face : ScopeRow.class.getDeclaredMethods()) {
            if (Modifier.isPublic(face.getModifiers())) {
                Check.yes("calls from " + face.getName() + " on go at most eight deep", deepest(face.getName(), calls, 1) <= DEEPEST);
            }
        }
    }

    /** A ring of calls is too deep, too. */
    private static int deepest(String name, Map<String, Set<String>> calls, int depth) {
        if (depth > DEEPEST) {
            return depth;
        }
        int deepest = depth;
        for (String next : calls.getOrDefault(name, Set.of())) {
            deepest = Math.max(deepest, deepest(next, calls, depth + 1));
        }
        return deepest;
    }
}
