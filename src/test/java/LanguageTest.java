import java.io.IOException;
import java.lang.reflect.Constructor;
import java.lang.reflect.Field;
import java.lang.reflect.Method;
import java.lang.reflect.Modifier;
import java.nio.file.Files;
import java.nio.file.Path;
import java.util.ArrayList;
import java.util.HashMap;
import java.util.HashSet;
import java.util.List;
import java.util.Map;
import java.util.Set;
import java.util.TreeSet;
import java.util.regex.Matcher;
import java.util.regex.Pattern;

/** The public face, and the rules of LANGUAGE.md as far as they can be read off the source. */
public final class LanguageTest {
    private static final Path SOURCE = Path.of("src/main/java/SecretKeeper.java");
    private static final Pattern NAME = Pattern.compile("[A-Za-z_]\\w*");
    private static final Pattern CALL = Pattern.compile("([a-z]\\w*)\\(");
    private static final Pattern METHOD =
            Pattern.compile("(?m)^    (?:public|private)[^=;{]* ([a-z]\\w*)\\([^)]*\\) \\{$");
    private static final Pattern CONSTANT = Pattern.compile(
            "    (?:public|private) static final (?:int|long) ([A-Z_]+) = [-+*A-Z_0-9 ]+;");
    private static final Pattern ARRAY = Pattern.compile(
            "    private final (int|boolean)\\[\\] \\w+ = new \\1\\[[A-Z_]+\\];");
    private static final Pattern LOOP = Pattern.compile(
            "for \\(int (\\w+) = 0; \\1 < [^;]+; \\1\\+\\+\\) \\{");
    private static final Set<String> NOT_CALLS = Set.of("if", "for", "while", "switch", "return");
    private static final int DEEPEST = 6;
    private static final Set<String> FORBIDDEN = Set.of("import", "package", "float", "double",
            "null", "throw", "throws", "try", "catch", "finally", "synchronized", "assert",
            "instanceof", "interface", "enum", "record", "protected", "var", "this", "super");
    private static final Set<String> FACE = Set.of("int express(int,int,int,int)",
            "int state(int,int,int,int)", "boolean label(int,boolean)", "boolean secret(int)",
            "boolean safe(int)", "int run(int)", "int leaks()", "int leak(int)", "int printed()",
            "int output(int)", "int variable(int)", "boolean setVariable(int,int)",
            "int element(int,int)", "boolean setElement(int,int,int)", "boolean level(int)");
    private static final Checks CHECKS = new Checks("LanguageTest");

    public static void main(String[] args) throws IOException {
        String source = Files.readString(SOURCE)
                .replaceAll("(?s)/\\*.*?\\*/", "").replaceAll("//[^\n]*", "");
        publicFace();
        fields();
        words(source);
        constants(source);
        arrays(source);
        loops(source);
        calls(source);
        CHECKS.end();
    }

    private static void publicFace() {
        CHECKS.part("rule 1, the face");
        Class<?> type = SecretKeeper.class;
        CHECKS.due("public and final", type.getModifiers(), Modifier.PUBLIC | Modifier.FINAL);
        CHECKS.due("nested classes", type.getDeclaredClasses().length, 0);
        Constructor<?>[] constructors = type.getDeclaredConstructors();
        CHECKS.due("constructors", constructors.length, 1);
        CHECKS.due("public constructor", Modifier.isPublic(constructors[0].getModifiers()), true);
        CHECKS.due("its parameters", constructors[0].getParameterCount(), 0);
        Set<String> face = new TreeSet<>();
        Set<String> publicNames = new HashSet<>();
        Set<String> privateNames = new HashSet<>();
        for (Method m : type.getDeclaredMethods()) {
            CHECKS.due("rule 10, parameters of " + m.getName(), m.getParameterCount() <= 7, true);
            CHECKS.due("rule 4, answer of " + m.getName(), m.getReturnType().isPrimitive(), true);
            if (Modifier.isPrivate(m.getModifiers())) {
                privateNames.add(m.getName());
            } else {
                CHECKS.due("modifiers of " + m.getName(), m.getModifiers(), Modifier.PUBLIC);
                publicNames.add(m.getName());
                face.add(signature(m));
            }
        }
        CHECKS.due("the public methods " + face, face.equals(FACE), true);
        privateNames.retainAll(publicNames);
        CHECKS.due("names both public and private " + privateNames, privateNames.size(), 0);
    }

    private static String signature(Method m) {
        List<String> types = new ArrayList<>();
        for (Class<?> type : m.getParameterTypes()) {
            types.add(type.getName());
        }
        return m.getReturnType() + " " + m.getName() + "(" + String.join(",", types) + ")";
    }

    private static void fields() {
        CHECKS.part("rules 1, 2, 5 and 10, fields");
        Set<String> publicFields = new TreeSet<>();
        int kept = 0;
        for (Field f : SecretKeeper.class.getDeclaredFields()) {
            int modifiers = f.getModifiers();
            Class<?> type = f.getType();
            if (!Modifier.isPrivate(modifiers)) {
                publicFields.add(f.getName());
                CHECKS.due("modifiers of " + f.getName(), modifiers,
                        Modifier.PUBLIC | Modifier.STATIC | Modifier.FINAL);
                CHECKS.due("int " + f.getName(), type == int.class, true);
            }
            if (Modifier.isStatic(modifiers)) {
                CHECKS.due("final " + f.getName(), Modifier.isFinal(modifiers), true);
                CHECKS.due("type of " + f.getName(), type == int.class || type == long.class, true);
            } else {
                kept++;
                Class<?> plain = type.isArray() ? type.getComponentType() : type;
                CHECKS.due("type of " + f.getName(), plain.isPrimitive(), true);
                CHECKS.due("floats", plain == float.class || plain == double.class, false);
            }
        }
        CHECKS.due("fields, " + kept, kept <= 40, true);
        CHECKS.due("public fields " + publicFields,
                publicFields.equals(Set.of("BAD", "FULL", "UNSAFE", "OK")), true);
    }

    private static void words(String source) {
        CHECKS.part("rules 1, 2, 3 and 6, words");
        Set<String> constants = new HashSet<>(Set.of("SecretKeeper"));
        Matcher constant = CONSTANT.matcher(source);
        while (constant.find()) {
            constants.add(constant.group(1));
        }
        Matcher name = NAME.matcher(source);
        int classes = 0;
        int ownName = 0;
        while (name.find()) {
            String word = name.group();
            CHECKS.due("forbidden word " + word, FORBIDDEN.contains(word), false);
            if (Character.isUpperCase(word.charAt(0))) {
                CHECKS.due("another class, " + word, constants.contains(word), true);
            }
            classes += word.equals("class") ? 1 : 0;
            ownName += word.equals("SecretKeeper") ? 1 : 0;
        }
        CHECKS.due("classes", classes, 1);
        CHECKS.due("its name, in the class line and the constructor's alone", ownName, 2);
        CHECKS.due("something of an object", source.contains("."), false);
        CHECKS.due("lambda", source.contains("->"), false);
        CHECKS.due("method reference", source.contains("::"), false);
        CHECKS.due("text", source.contains("\""), false);
    }

    private static void constants(String source) {
        CHECKS.part("rule 5, static fields");
        for (String line : source.split("\n")) {
            boolean method = METHOD.matcher(line).find();
            if (line.matches(".*\\bstatic\\b.*") && !method) {
                CHECKS.due(line, CONSTANT.matcher(line).matches(), true);
            }
        }
    }

    /** Arrays are fields alone here: none is a local variable, a parameter or an answer. */
    private static void arrays(String source) {
        CHECKS.part("rule 4, arrays");
        for (String line : source.split("\n")) {
            if (line.matches(".*\\bnew\\b.*") || line.contains("[]")) {
                CHECKS.due(line, ARRAY.matcher(line).matches(), true);
            }
        }
    }

    /** The rule allows other loops too, but the class needs one shape only. */
    private static void loops(String source) {
        CHECKS.part("rule 8, loops");
        Matcher word = Pattern.compile("\\b(for|while|do)\\b").matcher(source);
        Matcher loop = LOOP.matcher(source);
        while (word.find()) {
            boolean counts = loop.find(word.start()) && loop.start() == word.start();
            CHECKS.due("a counter against a bound", counts, true);
            if (counts) {
                String body = source.substring(loop.end(), source.indexOf("\n        }", loop.end()));
                boolean changed = body.matches("(?s).*\\b" + loop.group(1) + "( [-+*]?= |\\+\\+|--).*");
                CHECKS.due("the counter changes in the loop: " + loop.group(), changed, false);
            }
        }
    }

    private static void calls(String source) {
        CHECKS.part("rules 8 and 10, calls");
        Map<String, String> bodies = new HashMap<>();
        Matcher method = METHOD.matcher(source);
        while (method.find()) {
            String body = source.substring(method.end(), source.indexOf("\n    }", method.end()));
            CHECKS.due("methods named " + method.group(1), bodies.containsKey(method.group(1)), false);
            bodies.put(method.group(1), body);
            CHECKS.due("length of " + method.group(1), body.split("\n").length <= 60, true);
        }
        int declared = SecretKeeper.class.getDeclaredMethods().length;
        CHECKS.due("methods found", bodies.size(), declared);
        for (String start : bodies.keySet()) {
            int depth = depth(start, bodies, 1);
            CHECKS.due("calls from " + start + " go " + depth + " deep", depth <= DEEPEST, true);
            ownCalls(start, bodies);
            callsInArguments(start, bodies.get(start));
        }
    }

    /** Recursion shows as too great a depth, so there is no need to look any deeper. */
    private static int depth(String name, Map<String, String> bodies, int sofar) {
        if (sofar > DEEPEST) {
            return sofar;
        }
        int most = sofar;
        Matcher call = CALL.matcher(bodies.get(name));
        while (call.find()) {
            if (bodies.containsKey(call.group(1))) {
                most = Math.max(most, depth(call.group(1), bodies, sofar + 1));
            }
        }
        return most;
    }

    /** Rule 3: what is called is the class's own, nothing of Object. */
    private static void ownCalls(String name, Map<String, String> bodies) {
        Matcher call = CALL.matcher(bodies.get(name));
        while (call.find()) {
            String called = call.group(1);
            boolean own = bodies.containsKey(called) || NOT_CALLS.contains(called);
            CHECKS.due(name + " calls " + called, own, true);
        }
    }

    private static void callsInArguments(String name, String body) {
        Matcher call = CALL.matcher(body);
        while (call.find()) {
            if (NOT_CALLS.contains(call.group(1))) {
                continue;
            }
            int end = call.end();
            for (int open = 1; open > 0; end++) {
                open += body.charAt(end) == '(' ? 1 : body.charAt(end) == ')' ? -1 : 0;
            }
            boolean nested = CALL.matcher(body.substring(call.end(), end)).find();
            CHECKS.due("a call inside the arguments of a call in " + name, nested, false);
        }
    }
}
