import java.io.IOException;
import java.lang.reflect.Field;
import java.lang.reflect.Method;
import java.lang.reflect.Modifier;
import java.nio.charset.StandardCharsets;
import java.nio.file.Files;
import java.nio.file.Path;
import java.util.ArrayList;
import java.util.HashMap;
import java.util.HashSet;
import java.util.List;
import java.util.Map;
import java.util.Set;
import java.util.TreeSet;
import java.util.regex.Matcher;
import java.util.regex.Pattern;

/** The rules of LANGUAGE.md, as far as they can be seen in the file and in its classes. */
public final class LanguageTest {
    private static final Due DUE = new Due();
    private static final Path FILE = Path.of("src/main/java/ChainPeers.java");
    private static final String[] FORBIDDEN = {
        "package", "import", "protected", "throw", "throws", "try", "catch", "finally", "assert", "synchronized",
        "native", "volatile", "transient", "strictfp", "var", "double", "float", "Object", "equals", "hashCode",
        "toString", "getClass", "Thread", "Random", "nanoTime", "currentTimeMillis",
    };
    private static final Set<String> LIBRARY = Set.of("Math.max", "Math.min", "Math.abs", "System.arraycopy");
    private static final Pattern METHOD =
        Pattern.compile("^(?: {4}| {8})(?:public|private) (?:static )?[\\w\\[\\]]+ (\\w+)\\([^)]*\\) \\{$");
    private static final Pattern CALL = Pattern.compile("\\b([a-z]\\w*)\\(");

    public static void main(String[] args) throws IOException {
        String code = withoutComments(Files.readString(FILE, StandardCharsets.UTF_8));
        noForbiddenWords(code);
        onlyTheLibraryListed(code);
        classes();
        Map<String, List<String>> methods = methods(code);
        shortMethods(methods);
        callsAtMostEightDeep(methods);
        DUE.end();
    }

    private static String withoutComments(String code) {
        return code.replaceAll("(?s)/\\*.*?\\*/", "").replaceAll("//[^\n]*", "");
    }

    private static void noForbiddenWords(String code) {
        for (String word : FORBIDDEN) {
            DUE.is("rules 1 to 6 and 13: " + word, Pattern.compile("\\b" + word + "\\b").matcher(code).find(), false);
        }
        DUE.is("rule 2: no lambda", code.contains("->"), false);
        DUE.is("rule 2: no method reference", code.contains("::"), false);
        DUE.is("rule 5: no static initialiser", Pattern.compile("static\\s*\\{").matcher(code).find(), false);
        DUE.is("one top class", code.split("(?m)^public final class ", -1).length, 2);
    }

    private static void onlyTheLibraryListed(String code) {
        Matcher use = Pattern.compile("\\b(Math|System|Integer|Long|Arrays|String|List)\\.\\w+").matcher(code);
        while (use.find()) {
            DUE.is("rule 4: " + use.group(), LIBRARY.contains(use.group()), true);
        }
    }

    private static void classes() {
        List<Class<?>> all = new ArrayList<>(List.of(ChainPeers.class.getDeclaredClasses()));
        for (Class<?> inside : all) {
            int modifiers = inside.getModifiers();
            DUE.is("rule 1: " + inside + " is static", Modifier.isStatic(modifiers), true);
            DUE.is("rule 1: " + inside + " is public", Modifier.isPublic(modifiers), false);
        }
        all.add(ChainPeers.class);
        DUE.is("rule 11: at most some twelve classes, not " + all.size(), all.size() <= 12, true);
        Set<String> publicNames = new TreeSet<>();
        for (Method method : ChainPeers.class.getDeclaredMethods()) {
            if (Modifier.isPublic(method.getModifiers())) {
                publicNames.add(method.getName());
            }
        }
        for (Class<?> one : all) {
            fields(one);
            for (Method method : one.getDeclaredMethods()) {
                boolean isPublic = Modifier.isPublic(method.getModifiers());
                DUE.is("rule 1: " + method, !isPublic && publicNames.contains(method.getName()), false);
                DUE.is("rule 11: parameters of " + method, method.getParameterCount() <= 7, true);
            }
        }
    }

    private static void fields(Class<?> one) {
        int own = 0;
        for (Field field : one.getDeclaredFields()) {
            int modifiers = field.getModifiers();
            if (Modifier.isStatic(modifiers)) {
                DUE.is("rule 5: " + field, Modifier.isFinal(modifiers) && field.getType() == int.class, true);
            } else {
                own++;
            }
        }
        DUE.is("rule 11: fields of " + one, own <= 20, true);
    }

    /** The lines of each method; where two classes have a method of one name, those of both. */
    private static Map<String, List<String>> methods(String code) {
        Map<String, List<String>> methods = new HashMap<>();
        List<String> lines = null;
        String end = "";
        for (String line : code.split("\n")) {
            Matcher start = METHOD.matcher(line);
            if (lines == null && start.matches()) {
                lines = methods.computeIfAbsent(start.group(1), name -> new ArrayList<>());
                end = line.substring(0, line.indexOf('p')) + "}";
            } else if (lines != null && line.equals(end)) {
                lines = null;
            } else if (lines != null) {
                lines.add(line);
            }
        }
        int declared = 0;
        for (Class<?> one : ChainPeers.class.getDeclaredClasses()) {
            declared += one.getDeclaredMethods().length;
        }
        declared += ChainPeers.class.getDeclaredMethods().length;
        // look is there twice.
        DUE.is("methods that were found", methods.size(), declared - 1);
        return methods;
    }

    private static void shortMethods(Map<String, List<String>> methods) {
        for (Map.Entry<String, List<String>> method : methods.entrySet()) {
            DUE.is("rule 11: lines of " + method.getKey(), method.getValue().size() <= 60, true);
        }
    }

    private static void callsAtMostEightDeep(Map<String, List<String>> methods) {
        for (String name : methods.keySet()) {
            int depth = depth(name, methods, new HashSet<>());
            DUE.is("rule 11: " + name + " goes " + depth + " deep", depth <= 8, true);
        }
    }

    private static int depth(String name, Map<String, List<String>> methods, Set<String> open) {
        if (!open.add(name)) {
            throw new IllegalStateException(name + " calls itself");
        }
        int deepest = 0;
        for (String line : methods.get(name)) {
            Matcher call = CALL.matcher(line);
            while (call.find()) {
                if (methods.containsKey(call.group(1))) {
                    deepest = Math.max(deepest, depth(call.group(1), methods, open));
                }
            }
        }
        open.remove(name);
        return deepest + 1;
    }
}
