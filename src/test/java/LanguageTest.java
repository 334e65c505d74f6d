import java.io.IOException;
import java.lang.reflect.Constructor;
import java.lang.reflect.Field;
import java.lang.reflect.Method;
import java.lang.reflect.Modifier;
import java.nio.file.Files;
import java.nio.file.Path;
import java.util.ArrayDeque;
import java.util.ArrayList;
import java.util.Deque;
import java.util.List;
import java.util.Map;
import java.util.Set;
import java.util.TreeMap;
import java.util.TreeSet;
import java.util.regex.Matcher;
import java.util.regex.Pattern;

/** What of ../shared/LANGUAGE.md can be seen in the source and in the class that is made of it. */
public final class LanguageTest {
    private static final Path SOURCE = Path.of("src/main/java/ReelBack.java");
    private static final Path DOC = Path.of("../shared/DOC.md");
    private static int wrong = 0;

    private static void must(boolean held, String rule) {
        if (!held) {
            wrong++;
            System.out.println(rule);
        }
    }

    /** The source without its comments and what stands between quotes. */
    private static String bare(String source) {
        String s = source.replaceAll("'(\\\\.|[^'\\\\])'", "0").replaceAll("\"(\\\\.|[^\"\\\\])*\"", "TEXT");
        s = Pattern.compile("/\\*.*?\\*/", Pattern.DOTALL).matcher(s).replaceAll("");
        return s.replaceAll("//[^\n]*", "");
    }

    private static void words(String s) {
        String[] out = {"package", "throw", "throws", "try", "catch", "finally", "synchronized", "assert", "strictfp",
            "volatile", "transient", "native", "goto", "Object", "Random", "Thread", "System\\.out", "currentTimeMillis",
            "nanoTime", "getenv", "protected", "HashMap", "Map", "Set", "Stream", "hashCode", "NaN"};
        for (String word : out) {
            must(!Pattern.compile("\\b" + word + "\\b").matcher(s).find(), "rule 1, 4, 6, 13: the word " + word + " stands in it");
        }
        must(!s.contains("->") && !s.contains("::"), "rule 2: a lambda or a method reference");
        must(!Pattern.compile("\\w+Exact\\b").matcher(s).find(), "rule 4: a function whose name ends in Exact");
        must(!Pattern.compile("\\)\\s*\\{\\s*@|new \\w+\\([^;]*\\)\\s*\\{").matcher(s).find(), "rule 2: an anonymous class");
        must(!Pattern.compile("static\\s*\\{").matcher(s).find(), "rule 5: a static initialiser");
        must(!s.contains("+ TEXT") && !s.contains("TEXT +"), "rule 10: texts joined by +");
        Matcher imports = Pattern.compile("import ([\\w.*]+);").matcher(s);
        Set<String> importable = Set.of("java.util.Arrays", "java.util.ArrayList", "java.util.List", "java.util.Iterator");
        while (imports.find()) {
            must(importable.contains(imports.group(1)), "rule 4: the import of " + imports.group(1));
        }
        Matcher calls = Pattern.compile("\\b(Arrays|System|List)\\.(\\w+)").matcher(s);
        Set<String> library = Set.of("Arrays.fill", "Arrays.copyOf", "Arrays.copyOfRange", "System.arraycopy", "List.of");
        while (calls.find()) {
            String call = calls.group(1) + "." + calls.group(2);
            must(library.contains(call), "rule 4: " + call);
        }
        made(s);
        for (int i = 0; i < s.length(); i++) {
            must(s.charAt(i) < 128, "rule 4: a sign above 127 at " + i);
        }
    }

    /** Nothing is made but numbers' arrays, texts, lists, and objects of classes that stand in the file. */
    private static void made(String s) {
        Set<String> own = new TreeSet<>(Set.of("int", "long", "short", "byte", "char", "boolean", "double", "float", "String",
            "StringBuilder", "ArrayList"));
        Matcher classes = Pattern.compile("\\b(?:class|record|enum|interface) (\\w+)").matcher(s);
        while (classes.find()) {
            own.add(classes.group(1));
        }
        Matcher made = Pattern.compile("new (\\w+)").matcher(s);
        while (made.find()) {
            must(own.contains(made.group(1)), "rule 3, 12: new " + made.group(1));
        }
    }

    private static void lengths(String s) {
        String[] lines = s.split("\n");
        int start = -1;
        String indent = "";
        for (int i = 0; i < lines.length; i++) {
            Matcher head = Pattern.compile("^(\\s+)[\\w\\[\\] ]+\\([^;=]*\\) \\{$").matcher(lines[i]);
            boolean method = head.find() && !lines[i].trim().matches("(if|for|while|switch|else|do|return)\\b.*");
            if (method) {
                start = i;
                indent = head.group(1);
                must(head.group().split(",").length <= 7, "rule 11: more than seven parameters: " + lines[i].trim());
            }
            if (start >= 0 && lines[i].equals(indent + "}")) {
                must(i - start < 60, "rule 11: a method of " + (i - start + 1) + " lines: " + lines[start].trim());
                start = -1;
            }
        }
    }

    private static void faceIsTheDocuments(String doc) {
        Set<String> want = new TreeSet<>();
        Matcher promised = Pattern.compile("public int (\\w+)\\(([^)]*)\\);").matcher(doc);
        while (promised.find()) {
            String parameters = promised.group(2).trim();
            want.add(promised.group(1) + " " + (parameters.isEmpty() ? 0 : parameters.split(",").length));
        }
        Set<String> have = new TreeSet<>();
        for (Method method : ReelBack.class.getDeclaredMethods()) {
            if (Modifier.isPublic(method.getModifiers())) {
                must(method.getReturnType() == int.class && !Modifier.isStatic(method.getModifiers()), "rule 1: " + method);
                have.add(method.getName() + " " + method.getParameterCount());
                for (Class<?> type : method.getParameterTypes()) {
                    must(type == int.class, "rule 1: " + method);
                }
            } else {
                must(Modifier.isPrivate(method.getModifiers()) || method.isSynthetic(), "rule 1: " + method);
            }
        }
        must(want.size() == 48 && want.equals(have), "rule 1: the face is " + have + ", the document's is " + want);
        Set<String> constants = new TreeSet<>();
        for (Field field : ReelBack.class.getDeclaredFields()) {
            boolean isPublic = Modifier.isPublic(field.getModifiers());
            must(isPublic || Modifier.isPrivate(field.getModifiers()), "rule 1: " + field);
            if (isPublic) {
                constants.add(field.getName());
            }
        }
        must(constants.equals(new TreeSet<>(Set.of("NONE", "FULL", "STATE", "NOT", "BIG", "CAST", "NO_VALUE"))),
            "rule 1: the constants are " + constants);
        must(Modifier.isFinal(ReelBack.class.getModifiers()), "rule 1: the class is final");
        must(ReelBack.class.getConstructors().length == 1, "rule 1: one public constructor");
    }

    private static void insides(String doc) {
        List<Class<?>> all = new ArrayList<>(List.of(ReelBack.class.getDeclaredClasses()));
        must(all.size() + 1 <= 12, "rule 11: " + (all.size() + 1) + " classes");
        for (Class<?> inside : all) {
            must(Modifier.isStatic(inside.getModifiers()) && !Modifier.isPublic(inside.getModifiers()), "rule 2: " + inside);
            must(inside.getDeclaredClasses().length == 0, "rule 2: classes in " + inside);
            for (Method method : inside.getDeclaredMethods()) {
                must(Modifier.isPrivate(method.getModifiers()) || method.isSynthetic(), "rule 1: " + method);
                must(!doc.contains("public int " + method.getName() + "("), "rule 1: the name of " + method);
            }
            for (Constructor<?> made : inside.getDeclaredConstructors()) {
                must(!Modifier.isPublic(made.getModifiers()), "rule 1: " + made);
                must(made.getParameterCount() <= 7, "rule 11: " + made);
            }
        }
        all.add(ReelBack.class);
        for (Class<?> one : all) {
            int fields = 0;
            for (Field field : one.getDeclaredFields()) {
                boolean isStatic = Modifier.isStatic(field.getModifiers());
                fields += isStatic ? 0 : 1;
                must(!isStatic || Modifier.isFinal(field.getModifiers()), "rule 5: " + field);
                boolean row = field.getType() == int[].class || field.getType() == String.class;
                must(!isStatic || field.getType().isPrimitive() || row, "rule 5: " + field);
            }
            must(fields <= 20, "rule 11: " + fields + " fields in " + one);
        }
    }

    // ---- how deep calls go

    private static final Pattern HEAD = Pattern.compile("^( {4}| {8})(?:public |private )(?:static )?(?:[\\w\\[\\]]+ )?(\\w+)\\((.*)\\) \\{$");
    private static final Pattern INSIDE = Pattern.compile("^ {4}(?:private )?static (?:final )?class (\\w+).*\\{$");
    private static final Pattern NAMED = Pattern.compile("\\b([A-Z]\\w+)(?:\\[\\])? (\\w+)\\s*[;,)=]");

    /** What each method calls: names are those of class and method. */
    private static Map<String, Set<String>> callsOf(String s) {
        Map<String, String> bodies = new TreeMap<>();
        Map<String, String> types = new TreeMap<>();
        String at = "ReelBack";
        String method = "";
        for (String line : s.split("\n")) {
            Matcher inside = INSIDE.matcher(line);
            Matcher head = HEAD.matcher(line);
            if (inside.find()) {
                at = inside.group(1);
                method = "";
            } else if (line.equals("    }")) {
                at = "ReelBack";
                method = "";
            } else if (head.find()) {
                method = at + "." + head.group(2);
            }
            Matcher named = NAMED.matcher(line);
            while (named.find()) {
                types.put(named.group(2), named.group(1));
            }
            bodies.merge(method, line + "\n", String::concat);
        }
        bodies.remove("");
        Map<String, Set<String>> calls = new TreeMap<>();
        for (String from : bodies.keySet()) {
            calls.put(from, calledIn(from, bodies, types));
        }
        return calls;
    }

    private static Set<String> calledIn(String from, Map<String, String> bodies, Map<String, String> types) {
        Set<String> all = new TreeSet<>();
        Matcher called = Pattern.compile("(new )?(?:(\\w+)(?:\\[\\w+\\])?\\.)?\\b(\\w+)\\(").matcher(bodies.get(from));
        while (called.find()) {
            String own = from.substring(0, from.indexOf('.'));
            String of = called.group(2) == null ? own : types.getOrDefault(called.group(2), called.group(2));
            String name = called.group(1) == null ? of + "." + called.group(3) : called.group(3) + "." + called.group(3);
            if (!bodies.containsKey(name) && called.group(2) == null) {
                name = "ReelBack." + called.group(3);
            }
            if (bodies.containsKey(name) && !name.equals(from)) {
                all.add(name);
            }
        }
        return all;
    }

    /** How many calls stand open at most from a method on, without those that come back to an open one. */
    private static int depth(String method, Map<String, Set<String>> calls, Deque<String> open) {
        if (open.contains(method)) {
            return 0;
        }
        open.push(method);
        int deepest = 0;
        for (String called : calls.get(method)) {
            deepest = Math.max(deepest, depth(called, calls, open));
        }
        open.pop();
        return deepest + 1;
    }

    private static void depths(String s) {
        Map<String, Set<String>> calls = callsOf(s);
        int deepest = 0;
        for (String method : calls.keySet()) {
            int depth = depth(method, calls, new ArrayDeque<>());
            deepest = Math.max(deepest, depth);
            must(depth <= 8, "rule 11: " + depth + " calls deep from " + method);
        }
        must(deepest > 3 && calls.size() > 100, "rule 11: the calls are not found");
    }

    public static void main(String[] args) throws IOException {
        String source = Files.readString(SOURCE);
        String doc = Files.readString(DOC);
        words(bare(source));
        lengths(source);
        depths(bare(source));
        faceIsTheDocuments(doc);
        insides(doc);
        System.out.println(wrong == 0 ? "the language is kept to" : wrong + " breaches of the language");
        if (wrong != 0) {
            System.exit(1);
        }
    }
}
