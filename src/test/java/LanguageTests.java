import java.io.IOException;
import java.lang.reflect.Field;
import java.lang.reflect.Method;
import java.lang.reflect.Modifier;
import java.nio.charset.StandardCharsets;
import java.nio.file.Files;
import java.nio.file.Path;
import java.util.ArrayList;
import java.util.List;
import java.util.Map;
import java.util.Set;
import java.util.TreeMap;
import java.util.TreeSet;
import java.util.regex.Matcher;
import java.util.regex.Pattern;

/** The rules of ../shared/LANGUAGE.md that can be seen in the source or by reflection, by their numbers. */
final class LanguageTests {
    private static final String SOURCE = "src/main/java/WaltzHall.java";
    private static final Set<String> EXCEPTIONS = Set.of("IllegalStateException", "IllegalArgumentException",
            "IndexOutOfBoundsException");
    private static final Set<String> TYPES = Set.of("int", "long", "short", "byte", "char", "boolean", "double",
            "float", "String", "int[]", "long[]", "byte[]", "char[]", "ArrayList");
    private static final int MOST_LINES = 60;
    private static final int MOST_PARAMETERS = 7;
    private static final int MOST_DEPTH = 8;
    private static final int MOST_CLASSES = 12;
    private static final int MOST_FIELDS = 20;

    private final List<String> lines;
    /** The source without its comments and texts. */
    private final String code;

    private LanguageTests() {
        try {
            lines = Files.readAllLines(Path.of(SOURCE), StandardCharsets.UTF_8);
        } catch (IOException e) {
            throw new IllegalStateException("run the tests in the project's directory: " + e);
        }
        String bare = String.join("\n", lines).replaceAll("\"[^\"\n]*\"", "\"\"");
        code = bare.replaceAll("(?s)/\\*.*?\\*/", "").replaceAll("//[^\n]*", "");
    }

    static void run() {
        LanguageTests tests = new LanguageTests();
        Check.test("language, 1: no package, and no private method with the name of a public one", tests::names);
        Check.test("language, 2: static classes inside, no lambda, no method reference", tests::classesInside);
        Check.test("language, 3: types of fields", tests::types);
        Check.test("language, 3: texts and all else are of the signs 1 to 127", tests::signs);
        Check.test("language, 4: the library is ArrayList and some of Math alone", tests::library);
        Check.test("language, 5: static fields are final, no static block", tests::staticFields);
        Check.test("language, 6: three exceptions with a written text, none caught, none in a constructor",
                tests::exceptions);
        Check.test("language, 8 and 11: no method calls itself, and calls go at most eight deep", tests::noRecursion);
        Check.test("language, 9: each loop has a counter with a bound", tests::loops);
        Check.test("language, 10: texts are not joined by +", tests::joinedTexts);
        Check.test("language, 11: few parameters, short methods, few classes and fields", tests::sizes);
        Check.test("language, 12: objects are made where somebody comes, and once to look ahead", tests::newObjects);
    }

    private static List<Class<?>> classes() {
        List<Class<?>> all = new ArrayList<>(List.of(WaltzHall.class.getDeclaredClasses()));
        all.add(WaltzHall.class);
        return all;
    }

    private void holdsNone(String... patterns) {
        for (String pattern : patterns) {
            Matcher found = Pattern.compile(pattern).matcher(code);
            if (found.find()) {
                Check.wrong("the source has " + found.group());
            }
        }
    }

    private Set<String> found(String pattern) {
        Set<String> all = new TreeSet<>();
        Matcher matcher = Pattern.compile(pattern).matcher(code);
        while (matcher.find()) {
            all.add(matcher.group(1));
        }
        return all;
    }

    private void names() {
        holdsNone("\\bpackage\\b", "\\bprotected\\b");
        Set<String> open = new TreeSet<>();
        for (Method method : WaltzHall.class.getDeclaredMethods()) {
            if (Modifier.isPublic(method.getModifiers())) {
                open.add(method.getName());
            }
        }
        for (Class<?> c : classes()) {
            for (Method method : c.getDeclaredMethods()) {
                boolean hidden = c != WaltzHall.class || Modifier.isPrivate(method.getModifiers());
                Check.isTrue(method + " has a name of its own", !hidden || !open.contains(method.getName()));
            }
        }
    }

    private void classesInside() {
        for (Class<?> c : WaltzHall.class.getDeclaredClasses()) {
            Check.isTrue(c + " is static", Modifier.isStatic(c.getModifiers()));
            Check.isTrue(c + " is not open", !Modifier.isPublic(c.getModifiers()));
            Check.same("classes inside " + c, c.getDeclaredClasses().length, 0);
        }
        holdsNone("->", "::", "@");
    }

    private void types() {
        for (Class<?> c : classes()) {
            for (Field field : c.getDeclaredFields()) {
                Class<?> type = field.getType();
                Check.isTrue("the type of " + field, TYPES.contains(type.getSimpleName())
                        || classes().contains(type));
            }
        }
    }

    private void signs() {
        for (String line : lines) {
            for (char sign : line.toCharArray()) {
                Check.isTrue("a sign of " + line, sign >= 1 && sign <= 127);
            }
        }
    }

    private void library() {
        Check.isTrue("the imports", found("import ([\\w.*]+);").equals(Set.of("java.util.ArrayList")));
        Set<String> allowed = Set.of("abs", "floorMod", "max", "min");
        for (String name : found("\\bMath\\.(\\w+)")) {
            Check.isTrue("Math." + name, allowed.contains(name));
        }
        holdsNone("\\bjava\\.(?!util\\.ArrayList;)", "\\bSystem\\b", "\\bThread\\b", "\\bRandom\\b", "Exact\\b",
                "\\bObject\\b", "\\bnull\\s*\\.", "\\bequals\\b", "\\bhashCode\\b", "\\btoString\\b", "\\bgetClass\\b");
    }

    private void staticFields() {
        for (Class<?> c : classes()) {
            for (Field field : c.getDeclaredFields()) {
                int modifiers = field.getModifiers();
                Check.isTrue(field + " is final", !Modifier.isStatic(modifiers) || Modifier.isFinal(modifiers));
            }
        }
        holdsNone("\\bstatic\\s*\\{");
    }

    private void exceptions() {
        holdsNone("\\btry\\b", "\\bcatch\\b", "\\bfinally\\b", "\\bsynchronized\\b", "\\bassert\\b",
                "\\binstanceof\\b", "\\bextends\\b", "\\bthrow\\s+(?!new \\w+\\(\"\"\\);)");
        for (String name : found("\\bthrow new (\\w+)")) {
            Check.isTrue("throw new " + name, EXCEPTIONS.contains(name));
        }
        for (Part method : methods()) {
            boolean inConstructor = Character.isUpperCase(method.name.charAt(0));
            Check.isTrue("no throw in " + method.name, !inConstructor || !method.body.contains("throw "));
        }
    }

    /** A method or a constructor as it stands in the source. */
    private static final class Part {
        String name;
        String body;
        int lines;
    }

    /** What begins four or eight blanks in, without a word of a statement, and ends at the brace below it. */
    private List<Part> methods() {
        Pattern head = Pattern.compile("(?ms)^( {4}(?: {4})?)(?!if|for|while|do|switch|return|throw|case)"
                + "(?:[\\w<>\\[\\]]+ )*(\\w+)\\([^;{}()]*\\)[^;{}()]*\\{\n(.*?)^\\1\\}$");
        List<Part> all = new ArrayList<>();
        Matcher matcher = head.matcher(code);
        while (matcher.find()) {
            Part method = new Part();
            method.name = matcher.group(2);
            method.body = matcher.group(3);
            method.lines = matcher.group().split("\n").length;
            all.add(method);
        }
        return all;
    }

    private void noRecursion() {
        Map<String, Set<String>> calls = new TreeMap<>();
        for (Part method : methods()) {
            calls.computeIfAbsent(method.name, name -> new TreeSet<>()).add(method.body);
        }
        int deepest = 0;
        for (String name : calls.keySet()) {
            deepest = Math.max(deepest, depth(name, calls, 1));
        }
        Check.isTrue("calls go at most " + MOST_DEPTH + " deep, not " + deepest, deepest <= MOST_DEPTH);
    }

    /** How deep calls go from the methods of that name; a name that comes back would go on without end. */
    private static int depth(String name, Map<String, Set<String>> calls, int above) {
        int deepest = above;
        for (String body : above > MOST_DEPTH ? Set.<String>of() : calls.get(name)) {
            Matcher called = Pattern.compile("(\\w+)\\(").matcher(body);
            while (called.find()) {
                if (calls.containsKey(called.group(1))) {
                    deepest = Math.max(deepest, depth(called.group(1), calls, above + 1));
                }
            }
        }
        return deepest;
    }

    private void loops() {
        holdsNone("\\bwhile\\b", "\\bdo\\b");
        Matcher loop = Pattern.compile("\\bfor \\((.*)\\) \\{").matcher(code);
        Pattern counted = Pattern.compile("int (\\w+) = [^;]+; \\1 (?:<|<=|>=) [^;]+; \\1(?:\\+\\+| -= 8)");
        int seen = 0;
        while (loop.find()) {
            seen++;
            Check.isTrue("counted: " + loop.group(), counted.matcher(loop.group(1)).matches());
        }
        Check.isTrue("loops are found", seen > 10);
    }

    private void joinedTexts() {
        holdsNone("\"\"\\s*\\+", "\\+\\s*\"\"");
    }

    private void sizes() {
        List<Part> methods = methods();
        int declared = 0;
        Check.isTrue("few classes", classes().size() <= MOST_CLASSES);
        for (Class<?> c : classes()) {
            int fields = 0;
            for (Field field : c.getDeclaredFields()) {
                fields += Modifier.isStatic(field.getModifiers()) ? 0 : 1;
            }
            Check.isTrue("few fields in " + c, fields <= MOST_FIELDS);
            for (Method method : c.getDeclaredMethods()) {
                declared++;
                Check.isTrue("few parameters of " + method, method.getParameterCount() <= MOST_PARAMETERS);
            }
        }
        int written = 0;
        for (Part method : methods) {
            written += Character.isUpperCase(method.name.charAt(0)) ? 0 : 1;
            Check.isTrue(method.name + " is short", method.lines <= MOST_LINES);
        }
        Check.same("methods found in the source", written, declared);
    }

    private void newObjects() {
        Set<String> makers = Set.of("WaltzHall", "come", "addWinder", "startLike");
        for (Part method : methods()) {
            boolean makes = method.body.replace("throw new ", "").contains("new ");
            Check.same("new objects in " + method.name, makes ? 1 : 0, makers.contains(method.name) ? 1 : 0);
        }
    }
}
