import java.lang.reflect.Array;
import java.lang.reflect.Constructor;
import java.lang.reflect.Field;
import java.lang.reflect.Member;
import java.lang.reflect.Method;
import java.lang.reflect.Modifier;
import java.nio.charset.StandardCharsets;
import java.nio.file.Files;
import java.nio.file.Path;
import java.util.ArrayList;
import java.util.Collections;
import java.util.IdentityHashMap;
import java.util.List;
import java.util.Map;
import java.util.Set;
import java.util.TreeMap;
import java.util.TreeSet;
import java.util.regex.Matcher;
import java.util.regex.Pattern;

/** Tests that the class has the document's face and nothing beside it, and keeps to what LANGUAGE.md rules out. */
public final class FaceTest {
    private static final String BOUNDS = " IndexOutOfBoundsException";
    private static final String ARGUMENT = " IllegalArgumentException";
    private static final String STATE = " IllegalStateException";

    private static final Set<String> FACE = new TreeSet<>(List.of(
            "int sign(char)" + ARGUMENT + STATE,
            "int erase()",
            "boolean rule(boolean)" + STATE,
            "int article(int,int)" + BOUNDS + ARGUMENT + STATE,
            "int under(int,int)" + BOUNDS + ARGUMENT,
            "int refer(int)" + BOUNDS + STATE,
            "boolean use(int,int)" + BOUNDS + STATE,
            "int change(int,int)" + BOUNDS,
            "boolean forbid(int,boolean)" + BOUNDS + STATE,
            "int volume(char,int)" + ARGUMENT + STATE,
            "int contributor(int)" + ARGUMENT + STATE,
            "boolean quarrel(int,int)" + BOUNDS + ARGUMENT,
            "int give(int,int)" + BOUNDS + STATE,
            "int die(int)" + BOUNDS + STATE,
            "int pass(int)" + ARGUMENT,
            "int print(int)" + BOUNDS + STATE,
            "int supplement()" + STATE,
            "int month()",
            "int at(int)" + BOUNDS,
            "int about(int,int)" + BOUNDS + ARGUMENT,
            "int struck()",
            "int errata(int)" + BOUNDS,
            "int open(boolean)",
            "int contradictions(boolean)",
            "int readAnew(boolean)",
            "int synopsis(int)" + BOUNDS));

    private static final Set<String> CONSTANTS = new TreeSet<>(List.of("NONE", "PLANNED", "GIVEN", "WRITTEN",
            "PRINTED"));

    private static final String[] RULED_OUT = {"\\btry\\b", "\\bcatch\\b", "\\bfinally\\b", "\\bsynchronized\\b",
        "\\bassert\\b", "->", "::", "\\bimport\\b", "\\bpackage\\b", "static\\s*\\{", "\\bequals\\s*\\(",
        "\\bhashCode\\b", "\\btoString\\b", "\\bdouble\\b", "\\bfloat\\b", "Exact\\s*\\(", "\\binstanceof\\b",
        "\\bprotected\\b", "\\bvar\\b", "\\bwhile\\b", "\\bdo\\b", "[^\\x00-\\x7f]", "\" \\+|\\+ \"", "for \\(;",
        "\\bjava\\.", "\\bSystem\\.(?!arraycopy)", "\\bMath\\.(?!max\\()", "@"};

    /** All names with a capital and a small letter that the program may hold beside those of its own classes. */
    private static final Set<String> LIBRARY = Set.of("CircleOfLeaves", "System", "Math",
            "IndexOutOfBoundsException", "IllegalArgumentException", "IllegalStateException");

    private static final int MOST_DEPTH = 8;
    private static final int MOST_FIELDS = 20;
    private static final int MOST_OBJECTS = 1000;
    private static final int MOST_ELEMENTS = 10000;

    private static int passed = 0;
    private static int failed = 0;

    public static void main(String[] args) throws Exception {
        methods();
        constants();
        constructors();
        classesInside();
        String code = withoutComments(Files.readString(Path.of("src/main/java/CircleOfLeaves.java"),
                StandardCharsets.UTF_8));
        for (String pattern : RULED_OUT) {
            Matcher matcher = Pattern.compile(pattern).matcher(code);
            is("not in the program: " + pattern, !matcher.find());
        }
        library(code);
        loops(code);
        exceptions(code);
        objects(code);
        Map<String, String> bodies = bodies(code);
        lengths(bodies);
        depths(bodies);
        constructorsThrowNothing(code);
        fields();
        room();
        System.out.println(passed + " passed, " + failed + " failed");
        if (failed > 0) {
            System.exit(1);
        }
    }

    private static void is(String what, boolean isSo) {
        if (isSo) {
            passed++;
        } else {
            failed++;
            System.out.println("not so: " + what);
        }
    }

    private static String told(Method method) {
        List<String> parameters = new ArrayList<>();
        for (Class<?> type : method.getParameterTypes()) {
            parameters.add(type.getName());
        }
        StringBuilder row = new StringBuilder();
        row.append(method.getReturnType().getName()).append(' ').append(method.getName()).append('(');
        row.append(String.join(",", parameters)).append(')');
        for (Class<?> type : method.getExceptionTypes()) {
            row.append(' ').append(type.getSimpleName());
        }
        return row.toString();
    }

    private static void methods() {
        Set<String> open = new TreeSet<>();
        Set<String> openNames = new TreeSet<>();
        for (Method method : CircleOfLeaves.class.getDeclaredMethods()) {
            if (Modifier.isPublic(method.getModifiers())) {
                open.add(told(method));
                openNames.add(method.getName());
                is("not static: " + method.getName(), !Modifier.isStatic(method.getModifiers()));
            }
        }
        is("the face is " + FACE + ", not " + open, FACE.equals(open));
        for (Method method : CircleOfLeaves.class.getDeclaredMethods()) {
            if (!Modifier.isPublic(method.getModifiers())) {
                isPrivate(method);
                is("no name of the face: " + method.getName(), !openNames.contains(method.getName()));
                is("seven parameters at the most: " + method, method.getParameterCount() <= 7);
            }
        }
        is("public and final", Modifier.isPublic(CircleOfLeaves.class.getModifiers())
                && Modifier.isFinal(CircleOfLeaves.class.getModifiers()));
    }

    private static void isPrivate(Member member) {
        is("private: " + member, Modifier.isPrivate(member.getModifiers()) || member.isSynthetic());
    }

    private static void constants() {
        Set<String> open = new TreeSet<>();
        for (Field field : CircleOfLeaves.class.getDeclaredFields()) {
            int modifiers = field.getModifiers();
            if (Modifier.isPublic(modifiers)) {
                open.add(field.getName());
                is("a constant: " + field, Modifier.isStatic(modifiers) && field.getType() == int.class);
            } else {
                isPrivate(field);
            }
            is("static and final: " + field, !Modifier.isStatic(modifiers) || Modifier.isFinal(modifiers));
        }
        is("the constants are " + CONSTANTS + ", not " + open, CONSTANTS.equals(open));
        is("NONE", CircleOfLeaves.NONE == -1);
        is("PLANNED to PRINTED", CircleOfLeaves.PLANNED == 0 && CircleOfLeaves.GIVEN == 1
                && CircleOfLeaves.WRITTEN == 2 && CircleOfLeaves.PRINTED == 3);
    }

    private static void constructors() {
        Constructor<?>[] made = CircleOfLeaves.class.getDeclaredConstructors();
        is("one constructor", made.length == 1 && made[0].getParameterCount() == 0
                && Modifier.isPublic(made[0].getModifiers()) && made[0].getExceptionTypes().length == 0);
    }

    private static void classesInside() {
        Class<?>[] inside = CircleOfLeaves.class.getDeclaredClasses();
        is("some twelve classes at the most", inside.length < 12);
        for (Class<?> one : inside) {
            is("private and static: " + one, Modifier.isPrivate(one.getModifiers())
                    && Modifier.isStatic(one.getModifiers()));
            if (!one.isEnum()) {
                membersInside(one);
            }
        }
    }

    private static void membersInside(Class<?> one) {
        Set<String> face = new TreeSet<>();
        for (Method method : CircleOfLeaves.class.getDeclaredMethods()) {
            if (Modifier.isPublic(method.getModifiers())) {
                face.add(method.getName());
            }
        }
        for (Field field : one.getDeclaredFields()) {
            isPrivate(field);
            is("no static field: " + field, !Modifier.isStatic(field.getModifiers()));
        }
        for (Method method : one.getDeclaredMethods()) {
            isPrivate(method);
            is("no name of the face: " + method, !face.contains(method.getName()));
            is("seven parameters at the most: " + method, method.getParameterCount() <= 7);
        }
    }

    private static void fields() {
        List<Class<?>> all = new ArrayList<>(List.of(CircleOfLeaves.class.getDeclaredClasses()));
        all.add(CircleOfLeaves.class);
        for (Class<?> one : all) {
            int count = 0;
            for (Field field : one.getDeclaredFields()) {
                count += Modifier.isStatic(field.getModifiers()) ? 0 : 1;
            }
            is("some twenty fields at the most: " + one, count <= MOST_FIELDS);
        }
    }

    /** Calls make no objects, so what a new one holds is all that it ever needs of the room. */
    private static void room() throws IllegalAccessException {
        Set<Object> seen = Collections.newSetFromMap(new IdentityHashMap<>());
        List<Object> found = new ArrayList<>(List.of(new CircleOfLeaves()));
        int elements = 0;
        for (int i = 0; i < found.size(); i++) {
            Object one = found.get(i);
            if (one != null && seen.add(one)) {
                List<Object> held = held(one);
                elements += held.size();
                found.addAll(held);
            }
        }
        is("objects: " + seen.size(), seen.size() > 1 && seen.size() <= MOST_OBJECTS);
        is("fields and elements: " + elements, elements <= MOST_ELEMENTS);
    }

    /** What an object or array holds; a number, which holds nothing itself, as null. */
    private static List<Object> held(Object one) throws IllegalAccessException {
        List<Object> held = new ArrayList<>();
        if (one.getClass().isArray()) {
            boolean isOfNumbers = one.getClass().getComponentType().isPrimitive();
            for (int i = 0; i < Array.getLength(one); i++) {
                held.add(isOfNumbers ? null : Array.get(one, i));
            }
            return held;
        }
        if (one instanceof Enum) {
            return held;
        }
        for (Field field : one.getClass().getDeclaredFields()) {
            if (!Modifier.isStatic(field.getModifiers())) {
                field.setAccessible(true);
                held.add(field.getType().isPrimitive() ? null : field.get(one));
            }
        }
        return held;
    }

    private static String withoutComments(String code) {
        return code.replaceAll("(?s)/\\*.*?\\*/", "").replaceAll("//[^\n]*", "");
    }

    private static void library(String code) {
        Set<String> own = new TreeSet<>(LIBRARY);
        for (Class<?> one : CircleOfLeaves.class.getDeclaredClasses()) {
            own.add(one.getSimpleName());
        }
        String codeAlone = code.replaceAll("\"[^\"]*\"", "\"\"");
        Matcher matcher = Pattern.compile("\\b[A-Z]\\w*[a-z]\\w*\\b").matcher(codeAlone);
        while (matcher.find()) {
            is("a class of its own, or one that it may use: " + matcher.group(), own.contains(matcher.group()));
        }
        Matcher loaded = Pattern.compile("\\([A-Z]\\w*[a-z]\\w*\\)").matcher(codeAlone);
        is("no cast among objects", !loaded.find());
    }

    /** Each loop counts up to a bound that stands in its own line. */
    private static void loops(String code) {
        Matcher matcher = Pattern.compile("\\bfor \\([^\\n]*\\{").matcher(code);
        int count = 0;
        while (matcher.find()) {
            count++;
            is("a loop with a bound: " + matcher.group(),
                    matcher.group().matches("for \\(int (\\w+) = 0; .*\\b\\1 < [^;]*; \\1\\+\\+\\) \\{"));
        }
        is("all loops were seen", count > 0 && count == code.split("\\bfor\\b", -1).length - 1);
    }

    private static void constructorsThrowNothing(String code) {
        Matcher matcher = Pattern.compile("(?ms)^( *)(?:public|private) [A-Z]\\w*\\(\\) \\{$(.*?)^\\1\\}$")
                .matcher(code);
        int count = 0;
        while (matcher.find()) {
            count++;
            is("a constructor throws nothing", !matcher.group(2).contains("throw"));
        }
        is("constructors were seen: " + count, count == 2);
    }

    private static void exceptions(String code) {
        Matcher matcher = Pattern.compile("throw\\b([^;]*);").matcher(code);
        int count = 0;
        while (matcher.find()) {
            count++;
            is("a throw of what the document names: " + matcher.group(),
                    matcher.group(1).matches(" new (IllegalState|IllegalArgument|IndexOutOfBounds)Exception"
                            + "\\(\"[^\"]*\"\\)"));
        }
        is("there are throws", count > 0);
    }

    /** Objects are made in constructors and fields alone; a call makes none but what it throws. */
    private static void objects(String code) {
        Matcher matcher = Pattern.compile("\\n( *)([^\\n]*?)\\bnew (\\w+)").matcher(code);
        int count = 0;
        while (matcher.find()) {
            count++;
            String ahead = matcher.group(2);
            boolean isField = ahead.startsWith("private ");
            boolean isRow = ahead.matches("\\w+\\[i\\] = ");
            is("no object made by a call: " + matcher.group().trim(), isField || isRow || ahead.equals("throw "));
        }
        is("objects were seen", count > 0);
    }

    /** The lines of each method between its braces, by its name. */
    private static Map<String, String> bodies(String code) {
        Pattern head = Pattern.compile("( {4}| {8})(?:public|private) (?!static final class|enum)"
                + "[^;={]*?(\\w+)\\([^;]*");
        Map<String, String> bodies = new TreeMap<>();
        String end = "";
        String name = "";
        StringBuilder body = new StringBuilder();
        for (String line : code.split("\n")) {
            Matcher matcher = head.matcher(line);
            if (end.isEmpty() && matcher.matches()) {
                end = matcher.group(1) + "}";
                name = matcher.group(2);
                body.setLength(0);
            } else if (!end.isEmpty() && line.equals(end)) {
                is("one method of the name " + name, bodies.put(name, body.toString()) == null);
                end = "";
            } else if (!end.isEmpty()) {
                body.append(line).append('\n');
            }
        }
        is("methods were seen", end.isEmpty() && bodies.size() > FACE.size());
        return bodies;
    }

    private static void lengths(Map<String, String> bodies) {
        for (Map.Entry<String, String> one : bodies.entrySet()) {
            is("some sixty lines at the most: " + one.getKey(), one.getValue().split("\n").length < 60);
        }
    }

    private static void depths(Map<String, String> bodies) {
        for (String name : bodies.keySet()) {
            is("eight calls deep at the most: " + name, depth(name, bodies, 0) <= MOST_DEPTH);
        }
    }

    private static int depth(String name, Map<String, String> bodies, int open) {
        int deepest = 0;
        for (String other : bodies.keySet()) {
            boolean isCalled = Pattern.compile("\\b" + other + "\\(").matcher(bodies.get(name)).find();
            if (isCalled && open <= MOST_DEPTH) {
                deepest = Math.max(deepest, depth(other, bodies, open + 1));
            }
        }
        return deepest + 1;
    }
}
