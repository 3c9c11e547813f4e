import java.io.IOException;
import java.lang.reflect.Constructor;
import java.lang.reflect.Field;
import java.lang.reflect.Method;
import java.lang.reflect.Modifier;
import java.nio.file.Files;
import java.nio.file.Path;
import java.util.ArrayList;
import java.util.HashMap;
import java.util.HashSet;
import java.util.List;
import java.util.Map;
import java.util.Set;
import java.util.TreeSet;
import java.util.regex.Matcher;
import java.util.regex.Pattern;

/** The public face, and the rules of LANGUAGE.md as far as they can be read off the source. */
public final class LanguageTest {
    private static final Path SOURCE = Path.of("src/main/java/SecretKeeper.java");
    private static final Pattern NAME = Pattern.compile("[A-Za-z_]\\w*");
    private static final Pattern CALL = Pattern.compile("([a-z]\\w*)\\(");
    private static final Pattern METHOD =
            Pattern.compile("(?m)^    (?:public|private)[^=;{]* ([a-z]\\w*)\\([^)]*\\) \\{$");
    private static final Set<String> NOT_CALLS = Set.of("if", "for", "while", "switch", "return");
    private static final Set<String> FORBIDDEN = Set.of("import", "package", "float", "double",
            "null", "throw", "throws", "try", "catch", "finally", "synchronized", "assert",
            "instanceof", "interface", "enum", "record", "protected", "var", "this", "super");
    private static final Set<String> FACE = Set.of("int express(int,int,int,int)",
            "int state(int,int,int,int)", "boolean label(int,boolean)", "boolean secret(int)",
            "boolean safe(int)", "int run(int)", "int leaks()", "int leak(int)", "int printed()",
            "int output(int)", "int variable(int)", "boolean setVariable(int,int)",
            "int element(int,int)", "boolean setElement(int,int,int)", "boolean level(int)");
    private static final Checks CHECKS = new Checks("LanguageTest");

    public static void main(String[] args) throws IOException {
        String source = Files.readString(SOURCE)
                .replaceAll("(?s)/\\*.*?\\*/", "").replaceAll("//[^\n]*", "");
        publicFace();
        fields();
        words(source);
        arrays(source);
        calls(source);
        CHECKS.end();
    }

    private static void publicFace() {
        CHECKS.part("rule 1, the face");
        Class<?> type = SecretKeeper.class;
        CHECKS.due("public and final", type.getModifiers(), Modifier.PUBLIC | Modifier.FINAL);
        CHECKS.due("nested classes", type.getDeclaredClasses().length, 0);
        Constructor<?>[] constructors = type.getDeclaredConstructors();
        CHECKS.due("constructors", constructors.length, 1);
        CHECKS.due("public constructor", Modifier.isPublic(constructors[0].getModifiers()), true);
        CHECKS.due("its parameters", constructors[0].getParameterCount(), 0);
        Set<String> face = new TreeSet<>();
        Set<String> publicNames = new HashSet<>();
        Set<String> privateNames = new HashSet<>();
        for (Method m : type.getDeclaredMethods()) {
            CHECKS.due("rule 10, parameters of " + m.getName(), m.getParameterCount() <= 7, true);
            if (Modifier.isPrivate(m.getModifiers())) {
                privateNames.add(m.getName());
            } else {
                CHECKS.due("modifiers of " + m.getName(), m.getModifiers(), Modifier.PUBLIC);
                publicNames.add(m.getName());
                face.add(signature(m));
            }
        }
        CHECKS.due("the public methods " + face, face.equals(FACE), true);
        privateNames.retainAll(publicNames);
        CHECKS.due("names both public and private " + privateNames, privateNames.size(), 0);
    }

    private static String signature(Method m) {
        List<String> types = new ArrayList<>();
        for (Class<?> type : m.getParameterTypes()) {
            types.add(type.getName());
        }
        return m.getReturnType() + " " + m.getName() + "(" + String.join(",", types) + ")";
    }

    private static void fields() {
        CHECKS.part("rules 1, 2, 5 and 10, fields");
        Set<String> publicFields = new TreeSet<>();
        int kept = 0;
        for (Field f : SecretKeeper.class.getDeclaredFields()) {
            int modifiers = f.getModifiers();
            if (!Modifier.isPrivate(modifiers)) {
                publicFields.add(f.getName());
            }
            Class<?> type = f.getType();
            if (Modifier.isStatic(modifiers)) {
                CHECKS.due("final " + f.getName(), Modifier.isFinal(modifiers), true);
                CHECKS.due("type of " + f.getName(), type == int.class || type == long.class, true);
            } else {
                kept++;
                Class<?> plain = type.isArray() ? type.getComponentType() : type;
                CHECKS.due("type of " + f.getName(), plain.isPrimitive(), true);
                CHECKS.due("floats", plain == float.class || plain == double.class, false);
            }
        }
        CHECKS.due("fields, " + kept, kept <= 40, true);
        CHECKS.due("public fields " + publicFields,
                publicFields.equals(Set.of("BAD", "FULL", "UNSAFE", "OK")), true);
    }

    private static void words(String source) {
        CHECKS.part("rules 2, 3 and 6, words");
        Set<String> constants = new HashSet<>(Set.of("SecretKeeper"));
        Matcher constant = Pattern.compile("static final int (\\w+) =").matcher(source);
        while (constant.find()) {
            constants.add(constant.group(1));
        }
        Matcher name = NAME.matcher(source);
        while (name.find()) {
            String word = name.group();
            CHECKS.due("forbidden word " + word, FORBIDDEN.contains(word), false);
            if (Character.isUpperCase(word.charAt(0))) {
                CHECKS.due("another class, " + word, constants.contains(word), true);
            }
        }
        CHECKS.due("lambda", source.contains("->"), false);
        CHECKS.due("method reference", source.contains("::"), false);
        CHECKS.due("text", source.contains("\""), false);
    }

    private static void arrays(String source) {
        CHECKS.part("rule 4, arrays");
        Pattern made = Pattern.compile(
                "    private final (int|boolean)\\[\\] \\w+ = new \\1\\[[A-Z_]+\\];");
        for (String line : source.split("\n")) {
            if (line.matches(".*\\bnew\\b.*")) {
                CHECKS.due(line, made.matcher(line).matches(), true);
            }
        }
        CHECKS.due("two dimensions", source.contains("[]["), false);
    }

    private static void calls(String source) {
        CHECKS.part("rules 8 and 10, calls");
        Map<String, String> bodies = new HashMap<>();
        Matcher method = METHOD.matcher(source);
        while (method.find()) {
            String body = source.substring(method.end(), source.indexOf("\n    }", method.end()));
            CHECKS.due("methods named " + method.group(1), bodies.containsKey(method.group(1)), false);
            bodies.put(method.group(1), body);
            CHECKS.due("length of " + method.group(1), body.split("\n").length <= 60, true);
        }
        int declared = SecretKeeper.class.getDeclaredMethods().length;
        CHECKS.due("methods found", bodies.size(), declared);
        for (String start : bodies.keySet()) {
            int depth = depth(start, bodies, 1);
            CHECKS.due("calls from " + start + " go " + depth + " deep", depth <= 6, true);
            callsInArguments(start, bodies.get(start));
        }
    }

    /** Recursion shows as a depth beyond the number of methods. */
    private static int depth(String name, Map<String, String> bodies, int sofar) {
        if (sofar > bodies.size()) {
            return sofar;
        }
        int most = sofar;
        Matcher call = CALL.matcher(bodies.get(name));
        while (call.find()) {
            if (bodies.containsKey(call.group(1))) {
                most = Math.max(most, depth(call.group(1), bodies, sofar + 1));
            }
        }
        return most;
    }

    private static void callsInArguments(String name, String body) {
        Matcher call = CALL.matcher(body);
        while (call.find()) {
            if (NOT_CALLS.contains(call.group(1))) {
                continue;
            }
            int end = call.end();
            for (int open = 1; open > 0; end++) {
                open += body.charAt(end) == '(' ? 1 : body.charAt(end) == ')' ? -1 : 0;
            }
            boolean nested = CALL.matcher(body.substring(call.end(), end)).find();
            CHECKS.due("a call inside the arguments of a call in " + name, nested, false);
        }
    }
}
