import java.io.IOException;
import java.io.PrintWriter;
import java.io.StringWriter;
import java.lang.reflect.Constructor;
import java.lang.reflect.Field;
import java.lang.reflect.Method;
import java.lang.reflect.Modifier;
import java.nio.file.Files;
import java.nio.file.Path;
import java.util.ArrayList;
import java.util.Arrays;
import java.util.HashMap;
import java.util.HashSet;
import java.util.List;
import java.util.Map;
import java.util.Set;
import java.util.TreeMap;
import java.util.TreeSet;
import java.util.regex.Matcher;
import java.util.regex.Pattern;
import java.util.spi.ToolProvider;

/** What can be looked at by machine of LANGUAGE.md's rules, and the face. */
public final class LanguageTest {
    private static final String SOURCE = "src/main/java/CarriedHistory.java";
    private static final String FACE = """
        int feed(int,int,int,int,int)
        int commit(int,int,int)
        int plan(int,int)
        int ref(int,int,int,int)
        int run(int)
        int again(int)
        int join(int,int,int,int,int)
        int replay(int,int,int)
        int commitIs(int,int)
        int spelt(int,int)
        int look(int,int,int)
        int planIs(int,int)
        int image(int,int,int)
        int tried(int,int,int)
        long share(int)
        int sound(int,int)
        int refIs(int,int,int)
        int historyIs(int,int)
        int listing(int,int)
        int ancestor(int,int)
        int base(int,int,int)
        int way(int,int)
        int halving(int,int,int)
        int diff(int,int,int)
        int renamed(int,int,int,int)
        int likeness(int,int,int,int,int)
        int origin(int,int,int)
        int touches(int,int)
        int apart(int,int,int)
        int picked(int,int)
        int line(int,int)
        int keep()
        boolean undo()
        int check(int)
        int count(int)
        """;
    private static final Set<String> LIBRARY = Set.of("java/lang/Object.<init>", "java/lang/System.arraycopy",
        "java/util/Arrays.fill", "java/lang/Math.min", "java/lang/Math.max", "java/lang/Long.bitCount",
        "java/lang/String.length", "java/lang/String.charAt", "java/lang/StringBuilder.<init>",
        "java/lang/StringBuilder.append", "java/lang/StringBuilder.length", "java/lang/StringBuilder.charAt",
        "java/lang/StringBuilder.setLength");
    private static final String[] FORBIDDEN = {"->", "::", "\\bthrow\\b", "\\bcatch\\b", "\\btry\\b", "\\bfinally\\b",
        "\\bsynchronized\\b", "\\bassert\\b", "\\bvar\\b", "\\brecord\\b", "\\bprotected\\b", "\\bMath\\.\\w+Exact",
        "\\bFloat\\b", "\\bDouble\\b", "\\bCharacter\\b", "\" \\+", "\\+ \"", "\\[\\]\\[\\]", "static \\{", "\\.class\\b"};

    private static int wrong = 0;
    private static int right = 0;

    private static void holds(boolean so, String what) {
        if (so) {
            right++;
        } else {
            wrong++;
            System.out.println("not so: " + what);
        }
    }

    private static void lookAtFace() throws ReflectiveOperationException {
        Class<?> c = CarriedHistory.class;
        holds(Modifier.isFinal(c.getModifiers()) && Modifier.isPublic(c.getModifiers()), "public and final");
        Set<String> face = new TreeSet<>();
        FACE.lines().forEach(l -> face.add(l.strip()));
        Set<String> names = new HashSet<>();
        face.forEach(l -> names.add(l.replaceAll("^\\w+ (\\w+)\\(.*", "$1")));
        Set<String> found = new TreeSet<>();
        for (Method m : c.getDeclaredMethods()) {
            if (Modifier.isPublic(m.getModifiers())) {
                String params = String.join(",", Arrays.stream(m.getParameterTypes()).map(Class::getName).toList());
                found.add(m.getReturnType() + " " + m.getName() + "(" + params + ")");
                holds(!Modifier.isStatic(m.getModifiers()), m + " is not static");
            } else {
                holds(Modifier.isPrivate(m.getModifiers()), m + " is private");
                holds(!names.contains(m.getName()), m + " bears no name of the face");
            }
        }
        holds(face.equals(found), "the face is " + face + ", found " + found);
        for (Field f : c.getDeclaredFields()) {
            boolean isNone = f.getName().equals("NONE") && Modifier.isPublic(f.getModifiers());
            holds(isNone || Modifier.isPrivate(f.getModifiers()), f + " is private");
            holds(!Modifier.isStatic(f.getModifiers()) || Modifier.isFinal(f.getModifiers()), f + " is final");
        }
        holds(CarriedHistory.NONE == -1 && c.getField("NONE").getType() == int.class, "NONE is -1");
        Constructor<?>[] constructors = c.getDeclaredConstructors();
        holds(constructors.length == 1 && constructors[0].getParameterCount() == 0, "one constructor");
        Class<?>[] inside = c.getDeclaredClasses();
        holds(inside.length <= 12, "some twelve classes: " + inside.length);
        for (Class<?> i : inside) {
            lookInside(i, names);
        }
        holds(ownFields(c) <= 20, "fields of the class: " + ownFields(c));
    }

    private static int ownFields(Class<?> c) {
        int found = 0;
        for (Field f : c.getDeclaredFields()) {
            found += Modifier.isStatic(f.getModifiers()) ? 0 : 1;
        }
        return found;
    }

    private static void lookInside(Class<?> c, Set<String> names) {
        holds(Modifier.isStatic(c.getModifiers()) && !Modifier.isPublic(c.getModifiers()), c + " is static");
        holds(ownFields(c) <= 20, "fields of " + c + ": " + ownFields(c));
        for (Method m : c.getDeclaredMethods()) {
            holds(!names.contains(m.getName()), m + " bears no name of the face");
            holds(m.getParameterCount() <= 7, m + " takes seven at most");
        }
        for (Field f : c.getDeclaredFields()) {
            holds(!Modifier.isStatic(f.getModifiers()) || Modifier.isFinal(f.getModifiers()), f + " is final");
        }
    }

    private static void lookAtSource() throws IOException {
        String source = Files.readString(Path.of(SOURCE));
        String code = source.replaceAll("(?s)/\\*.*?\\*/", "").replaceAll("//[^\n]*", "");
        holds(source.chars().allMatch(x -> x == '\n' || x >= 32 && x < 127), "plain signs alone");
        for (String word : FORBIDDEN) {
            holds(!Pattern.compile(word).matcher(code).find(), "no " + word);
        }
        Matcher imports = Pattern.compile("import ([\\w.*]+);").matcher(code);
        while (imports.find()) {
            holds(imports.group(1).equals("java.util.Arrays"), "import of " + imports.group(1));
        }
        holds(!code.contains("package "), "no package");
        int start = -1;
        String[] lines = source.split("\n");
        for (int i = 0; i < lines.length; i++) {
            holds(lines[i].length() <= 120, "line " + (i + 1) + " is short");
            if (lines[i].matches("( {4}| {8})[a-zA-Z].*\\) \\{")) {
                start = i;
            } else if (lines[i].matches("( {4}| {8})\\}") && start >= 0) {
                holds(i - start <= 60, "the method in line " + (start + 1) + " is short");
                start = -1;
            }
        }
    }

    // ---- the calls, as javap tells them ----

    private static final Map<String, Set<String>> CALLS = new TreeMap<>();

    private static void readCalls() throws IOException {
        String folder = LanguageTest.class.getProtectionDomain().getCodeSource().getLocation().getPath();
        List<String> args = new ArrayList<>(List.of("-c", "-p"));
        try (var files = Files.list(Path.of(folder))) {
            files.map(Path::toString).filter(f -> f.matches(".*/CarriedHistory(\\$\\w+)?\\.class")).forEach(args::add);
        }
        StringWriter text = new StringWriter();
        PrintWriter writer = new PrintWriter(text);
        ToolProvider javap = ToolProvider.findFirst("javap").orElseThrow();
        holds(javap.run(writer, writer, args.toArray(new String[0])) == 0, "javap runs");
        String type = "";
        String method = "";
        for (String line : text.toString().split("\n")) {
            Matcher c = Pattern.compile("^[a-z ]*class (CarriedHistory\\S*) \\{").matcher(line);
            Matcher m = Pattern.compile("^  [^ ].*?([\\w$]+)\\(.*\\);").matcher(line);
            Matcher call = Pattern.compile("invoke\\w+ .*// (?:Interface)?Method ([^:]+):").matcher(line);
            if (c.find()) {
                type = c.group(1);
            } else if (m.find()) {
                method = m.group(1).equals(type) ? type + ".<init>" : type + "." + m.group(1);
                CALLS.putIfAbsent(method, new TreeSet<>());
            } else if (line.contains("invokedynamic")) {
                holds(false, method + " joins texts by +, or has a lambda");
            } else if (call.find()) {
                String to = call.group(1).replace("\"", "");
                CALLS.get(method).add(to.contains(".") ? to : type + "." + to);
            }
        }
    }

    private static int depth(String method, Set<String> open, Map<String, Integer> known) {
        if (known.containsKey(method)) {
            return known.get(method);
        }
        holds(open.add(method), method + " does not come back to itself");
        int deepest = 0;
        for (String to : CALLS.getOrDefault(method, Set.of())) {
            if (to.startsWith("CarriedHistory") && !open.contains(to)) {
                deepest = Math.max(deepest, depth(to, open, known));
            } else if (to.startsWith("CarriedHistory")) {
                holds(false, method + " and " + to + " call one another");
            } else {
                holds(LIBRARY.contains(to), method + " calls " + to);
            }
        }
        open.remove(method);
        known.put(method, deepest + 1);
        return deepest + 1;
    }

    private static void lookAtCalls() throws IOException {
        readCalls();
        Map<String, Integer> known = new HashMap<>();
        holds(CALLS.size() > 100, "the calls were read");
        for (String method : CALLS.keySet()) {
            int depth = depth(method, new HashSet<>(), known);
            holds(depth <= 8, method + " goes " + depth + " calls deep");
        }
    }

    public static void main(String[] args) throws IOException, ReflectiveOperationException {
        lookAtFace();
        lookAtSource();
        lookAtCalls();
        System.out.println(right + " passed, " + wrong + " failed");
        if (wrong != 0) {
            System.exit(1);
        }
    }
}
