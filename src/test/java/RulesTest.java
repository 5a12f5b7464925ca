import java.nio.charset.StandardCharsets;
import java.nio.file.Files;
import java.nio.file.Path;
import java.util.ArrayList;
import java.util.HashMap;
import java.util.HashSet;
import java.util.List;
import java.util.Map;
import java.util.Set;
import java.util.TreeSet;
import java.util.regex.Matcher;
import java.util.regex.Pattern;

/** The rules of LANGUAGE.md that can be seen in the text of the source, which is taken as it is laid out here. */
public final class RulesTest {
    private static final Set<String> FACE = Set.of("feed", "end", "text", "fault", "act", "stop", "did", "all",
        "version", "order", "walk", "root", "depth", "comes", "meet", "shared", "kept", "heavy", "cover", "differ",
        "alike", "would", "fold", "dearest", "below", "age", "lowest", "over", "drawn", "looked", "way", "twice",
        "tallest", "forget", "count", "image", "again");
    private static final Set<String> LIBRARY = Set.of("Math.max", "Math.min", "Integer.bitCount", "Long.bitCount",
        "Arrays.fill", "Arrays.copyOf", "System.arraycopy");
    private static final Pattern METHOD = Pattern.compile(
        "^( {4}| {8})((?:public |private |static |final )*)([\\w\\[\\]]+ )?(\\w+)\\(([^)]*)\\) \\{$");
    private static final Pattern CALL = Pattern.compile("(?<!new )\\b([a-z]\\w*)\\(");
    private static final Set<String> WORDS = Set.of("if", "for", "while", "switch", "return", "super", "this");

    private static final class Method {
        final String type;
        final String name;
        final boolean open;
        final int parameters;
        int lines;
        final Set<String> calls = new TreeSet<>();

        Method(String type, String name, boolean open, int parameters) {
            this.type = type;
            this.name = name;
            this.open = open;
            this.parameters = parameters;
        }
    }

    public static void main(String[] args) throws Exception {
        String source = Files.readString(Path.of("src/main/java/PastHeaps.java"), StandardCharsets.UTF_8);
        String code = withoutComments(source);
        wordsThatMayNotStand(code);
        library(code);
        fields(code);
        methods(code);
        Due.finish("RulesTest");
    }

    private static String withoutComments(String source) {
        return source.replaceAll("(?s)/\\*.*?\\*/", "").replaceAll("//[^\n]*", "")
            .replaceAll("\"[^\"\n]*\"", "\"\"").replaceAll("'[^'\n]+'", "0");
    }

    private static void wordsThatMayNotStand(String code) {
        String[] words = {"throw", "throws", "try", "catch", "finally", "synchronized", "assert", "record", "enum",
            "interface", "protected", "package", "var", "native", "volatile", "yield", "goto", "float", "double",
            "Object", "Exception", "equals", "hashCode", "toString"};
        for (String word : words) {
            Due.is("word " + word, Pattern.compile("\\b" + word + "\\b").matcher(code).find(), false);
        }
        Due.is("lambda", code.contains("->"), false);
        Due.is("method reference", code.contains("::"), false);
        Due.is("annotation", code.contains("@"), false);
        for (int i = 0; i < code.length(); i++) {
            Due.is("sign", code.charAt(i) < 128, true);
        }
        Matcher imports = Pattern.compile("import ([\\w.]+);").matcher(code);
        while (imports.find()) {
            Due.is("import " + imports.group(1), imports.group(1).equals("java.util.Arrays"), true);
        }
    }

    private static void library(String code) {
        Matcher uses = Pattern.compile("\\b(Math|Integer|Long|Arrays|System|String|Character|Byte)\\.(\\w+)").matcher(code);
        while (uses.find()) {
            String use = uses.group(1) + "." + uses.group(2);
            Due.is("library " + use, LIBRARY.contains(use), true);
        }
    }

    private static void fields(String code) {
        int types = 0;
        Map<String, Integer> many = new HashMap<>();
        String type = "";
        for (String line : code.split("\n")) {
            Matcher types1 = Pattern.compile("\\bclass (\\w+)").matcher(line);
            if (types1.find()) {
                type = types1.group(1);
                types++;
                Due.is("static, private " + type, type.equals("PastHeaps") || line.contains("private static final"), true);
            }
            if (line.matches("^( {4}| {8})[\\w\\[\\] ]+( = .*)?[;{]$") && !line.contains("class ")) {
                boolean constant = line.contains("static final");
                Due.is("static is final: " + line, line.contains("static") && !constant, false);
                boolean field = line.matches("^( {4}| {8})private .*");
                if (field && !constant) {
                    many.merge(type, 1, Integer::sum);
                }
            }
        }
        Due.is("types", types <= 12, true);
        for (String each : many.keySet()) {
            Due.is("fields of " + each + ": " + many.get(each), many.get(each) <= 20, true);
        }
    }

    private static void methods(String code) {
        Map<String, List<Method>> byName = new HashMap<>();
        List<Method> every = read(code, byName);
        Set<String> face = new HashSet<>();
        for (Method method : every) {
            Due.is("lines of " + method.name + ": " + method.lines, method.lines <= 60, true);
            Due.is("parameters of " + method.name, method.parameters <= 7, true);
            if (method.open && !method.name.equals("PastHeaps")) {
                face.add(method.name);
                Due.is("of the face: " + method.name, FACE.contains(method.name), true);
            } else {
                Due.is("bears a public name: " + method.name, FACE.contains(method.name), false);
            }
        }
        Due.is("the whole face", face.size(), FACE.size());
        for (Method method : every) {
            if (method.open) {
                int deep = deepest(method, byName, new ArrayList<>());
                Due.is("calls of " + method.name + " go " + deep + " deep", deep <= 8, true);
            }
        }
    }

    private static List<Method> read(String code, Map<String, List<Method>> byName) {
        List<Method> every = new ArrayList<>();
        String type = "";
        Method now = null;
        String close = "";
        for (String line : code.split("\n")) {
            Matcher types = Pattern.compile("\\bclass (\\w+)").matcher(line);
            if (types.find()) {
                type = types.group(1);
            }
            Matcher head = METHOD.matcher(line);
            if (now == null && head.matches() && !WORDS.contains(head.group(4))) {
                int parameters = head.group(5).isEmpty() ? 0 : head.group(5).split(",").length;
                now = new Method(type, head.group(4), head.group(2).contains("public"), parameters);
                close = head.group(1) + "}";
                every.add(now);
                byName.computeIfAbsent(now.name, name -> new ArrayList<>()).add(now);
            } else if (now != null) {
                now.lines++;
                Matcher calls = CALL.matcher(line);
                while (calls.find()) {
                    now.calls.add(calls.group(1));
                }
                now = line.equals(close) ? null : now;
            }
        }
        return every;
    }

    /** A library call counts as one, too. */
    private static int deepest(Method method, Map<String, List<Method>> byName, List<String> open) {
        Due.is("calls itself: " + method.name + " " + open, open.contains(method.type + method.name), false);
        if (open.contains(method.type + method.name)) {
            return 100;
        }
        open.add(method.type + method.name);
        int deepest = 0;
        for (String call : method.calls) {
            if (WORDS.contains(call)) {
                continue;
            }
            List<Method> called = byName.getOrDefault(call, List.of());
            deepest = Math.max(deepest, called.isEmpty() ? 1 : 0);
            for (Method next : called) {
                deepest = Math.max(deepest, deepest(next, byName, open));
            }
        }
        open.remove(open.size() - 1);
        return deepest + 1;
    }
}
