import java.lang.reflect.Constructor;
import java.lang.reflect.Field;
import java.lang.reflect.Method;
import java.lang.reflect.Modifier;
import java.nio.file.Files;
import java.nio.file.Path;
import java.util.ArrayList;
import java.util.HashMap;
import java.util.List;
import java.util.Map;
import java.util.Set;
import java.util.TreeMap;
import java.util.TreeSet;
import java.util.regex.Matcher;
import java.util.regex.Pattern;

/** The rules of LANGUAGE.md that can be seen in the source's text or in the compiled class. Runs in the project's root. */
public final class LanguageTest {
    private static final Bench BENCH = new Bench();
    private static final Set<String> FACE = Set.of("boolean token(int,int)", "int drop()", "int run()", "int place()",
            "int steps()", "int depth()", "int kind(int)", "int value(int)", "int dot(int,int)", "int count(int)",
            "int clip(int)", "int points()", "int corner(int,int)");
    private static final Set<String> TYPES = Set.of("int", "long", "short", "byte", "char", "boolean", "void",
            "int[]", "long[]", "short[]", "byte[]", "char[]", "boolean[]");
    private static final Set<String> NO_CALLS = Set.of("if", "for", "while", "switch", "return");

    /** Each method's name with its body. */
    private static final Map<String, String> BODIES = new TreeMap<>();
    private static final Map<String, Integer> DEPTHS = new HashMap<>();

    public static void main(String[] args) throws Exception {
        String source = Files.readString(Path.of("src/main/java/StackRaster.java"));
        String code = source.replaceAll("(?s)/\\*.*?\\*/", " ").replaceAll("//[^\n]*", "");
        face();
        members();
        words(code);
        arrays(code);
        methods(code);
        calls();
        BENCH.end();
    }

    private static void face() {
        Class<?> type = StackRaster.class;
        BENCH.due("public and final", Modifier.isPublic(type.getModifiers()) && Modifier.isFinal(type.getModifiers()), true);
        BENCH.due("nested classes", type.getDeclaredClasses().length, 0);
        BENCH.due("superclass", type.getSuperclass(), Object.class);
        BENCH.due("interfaces", type.getInterfaces().length, 0);
        Set<String> face = new TreeSet<>();
        for (Method method : type.getDeclaredMethods()) {
            if (!Modifier.isPrivate(method.getModifiers())) {
                StringBuilder parameters = new StringBuilder();
                for (Class<?> parameter : method.getParameterTypes()) {
                    parameters.append(parameters.length() > 0 ? "," : "").append(parameter.getSimpleName());
                }
                face.add(method.getReturnType().getSimpleName() + " " + method.getName() + "(" + parameters + ")");
            }
        }
        BENCH.due("public methods", face, new TreeSet<>(FACE));
        Constructor<?>[] constructors = type.getDeclaredConstructors();
        BENCH.due("constructors", constructors.length, 1);
        BENCH.due("its parameters", constructors[0].getParameterCount(), 0);
        BENCH.due("it is public", Modifier.isPublic(constructors[0].getModifiers()), true);
    }

    private static void members() {
        Set<String> publicNames = new TreeSet<>();
        for (String method : FACE) {
            publicNames.add(method.substring(method.indexOf(' ') + 1, method.indexOf('(')));
        }
        for (Method method : StackRaster.class.getDeclaredMethods()) {
            BENCH.due(method.getName() + " has at most seven parameters", method.getParameterCount() <= 7, true);
            BENCH.due(method.getName() + " answers no array", method.getReturnType().isArray(), false);
            BENCH.due(method.getName() + " answers a plain type", TYPES.contains(method.getReturnType().getSimpleName()), true);
            if (Modifier.isPrivate(method.getModifiers())) {
                BENCH.due(method.getName() + " bears a public name", publicNames.contains(method.getName()), false);
            }
        }
        int fields = 0;
        Set<String> publicFields = new TreeSet<>();
        for (Field field : StackRaster.class.getDeclaredFields()) {
            String name = field.getName();
            BENCH.due(name + " has a plain type", TYPES.contains(field.getType().getSimpleName()), true);
            if (Modifier.isStatic(field.getModifiers())) {
                boolean isConstant = Modifier.isFinal(field.getModifiers())
                        && (field.getType() == int.class || field.getType() == long.class);
                BENCH.due(name + " is a constant", isConstant, true);
            } else {
                fields++;
            }
            if (!Modifier.isPrivate(field.getModifiers())) {
                publicFields.add(name);
            }
        }
        BENCH.due("public fields", publicFields, new TreeSet<>(Set.of("OK", "INCOMPLETE")));
        BENCH.due("at most forty fields", fields <= 40, true);
    }

    private static void words(String code) {
        String[] banned = {"package", "import", "float", "double", "String", "Math", "Integer", "System", "Arrays", "Object",
            "null", "throw", "throws", "try", "catch", "finally", "synchronized", "assert", "instanceof", "class\\s*\\.",
            "->", "::", "\"", "enum", "interface", "record", "var", "protected", "native", "yield", "static\\s*\\{",
            "while", "\\[\\s*\\]\\s*\\["};
        for (String word : banned) {
            String pattern = Character.isLetter(word.charAt(0)) ? "\\b" + word + (word.matches("\\w+") ? "\\b" : "") : word;
            BENCH.due("'" + word + "' stands in the class", Pattern.compile(pattern).matcher(code).find(), false);
        }
    }

    private static void arrays(String code) {
        Pattern field = Pattern.compile("^    private final int\\[\\] \\w+ = new int\\[[A-Z_]+\\];$");
        for (String line : code.split("\n")) {
            if (line.matches(".*\\bnew\\b.*")) {
                BENCH.due("made in a field's initialiser: " + line.trim(), field.matcher(line).matches(), true);
            }
        }
    }

    private static void methods(String code) {
        String[] lines = code.split("\n");
        Pattern head = Pattern.compile("^    (?:public|private) (?:static )?(?:[\\w\\[\\]]+ )?(\\w+)\\([^)]*\\) \\{$");
        String name = "";
        StringBuilder body = new StringBuilder();
        int length = 0;
        for (String line : lines) {
            Matcher matcher = head.matcher(line);
            if (matcher.matches()) {
                name = matcher.group(1);
                body.setLength(0);
                length = 0;
            } else if (line.equals("    }")) {
                BENCH.due(name + " is short", length <= 60, true);
                BENCH.due(name + " stands once", BODIES.containsKey(name), false);
                BODIES.put(name, body.toString());
                name = "";
            } else {
                body.append(line).append('\n');
                length++;
            }
        }
        BENCH.due("methods found", BODIES.size(), StackRaster.class.getDeclaredMethods().length + 1);
    }

    private static void calls() {
        Map<String, Set<String>> graph = new TreeMap<>();
        for (Map.Entry<String, String> method : BODIES.entrySet()) {
            graph.put(method.getKey(), callsIn(method.getKey(), method.getValue()));
        }
        for (String name : graph.keySet()) {
            BENCH.due(name + " ends and is at most six deep", depthOf(name, graph, new ArrayList<>()) <= 6, true);
        }
    }

    /** What a body calls; each call's arguments are looked through for calls within them. */
    private static Set<String> callsIn(String name, String body) {
        Set<String> called = new TreeSet<>();
        Matcher matcher = Pattern.compile("\\b(\\w+)\\s*\\(").matcher(body);
        while (matcher.find()) {
            String word = matcher.group(1);
            if (NO_CALLS.contains(word)) {
                continue;
            }
            BENCH.due(name + " calls the class's own " + word, BODIES.containsKey(word), true);
            called.add(word);
            String arguments = argumentsAt(body, matcher.end());
            boolean hasCall = Pattern.compile("\\b[a-z]\\w*\\s*\\(").matcher(arguments).find();
            BENCH.due(name + ": a call in the arguments of " + word, hasCall, false);
        }
        return called;
    }

    private static String argumentsAt(String body, int start) {
        int open = 1;
        int at = start;
        while (open > 0) {
            open += body.charAt(at) == '(' ? 1 : body.charAt(at) == ')' ? -1 : 0;
            at++;
        }
        return body.substring(start, at - 1);
    }

    private static int depthOf(String name, Map<String, Set<String>> graph, List<String> above) {
        if (DEPTHS.containsKey(name)) {
            return DEPTHS.get(name);
        }
        if (above.contains(name)) {
            return 1000;
        }
        above.add(name);
        int deepest = 0;
        for (String called : graph.getOrDefault(name, Set.of())) {
            deepest = Math.max(deepest, depthOf(called, graph, above));
        }
        above.remove(name);
        DEPTHS.put(name, deepest + 1);
        return deepest + 1;
    }
}
