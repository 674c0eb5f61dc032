import java.io.IOException;
import java.nio.file.Files;
import java.nio.file.Path;
import java.util.List;
import java.util.Map;
import java.util.TreeMap;
import java.util.regex.Matcher;
import java.util.regex.Pattern;

/** The rules of LANGUAGE.md that count: short methods, few parameters, shallow calls, few classes and fields. */
public final class RulesTest {
    private static final Pattern CLASS = Pattern.compile("^( *)(?:public |private |static |final )*class (\\w+) \\{");
    private static final Pattern METHOD =
        Pattern.compile("^( +)(?:(?:public|private|static|final) )*(?:(?:int|boolean|void|char|int\\[\\]) )?(\\w+)\\((.*)\\) \\{");
    private static final Pattern FIELD = Pattern.compile("^ +private (final )?[\\w\\[\\]]+ \\w+( = .*)?;");
    private static final Pattern CALL = Pattern.compile("(?:(\\w+)\\.)?\\b([a-z]\\w*)\\(");
    private static final Map<String, String> OBJECTS =
        Map.of("page", "Page", "now", "Layout", "trial", "Layout", "history", "History", "text", "Text");
    private static final List<String> NO_CALLS = List.of("if", "for", "while", "switch", "return");

    private static final Map<String, StringBuilder> bodies = new TreeMap<>();
    private static final Map<String, Integer> fields = new TreeMap<>();
    private static final Map<String, Integer> depths = new TreeMap<>();

    public static void main(String[] args) throws IOException {
        read(Files.readAllLines(Path.of("src/main/java/BaselineGrid.java")));
        atMost("classes", fields.size(), 12);
        fields.forEach((name, count) -> atMost("fields of " + name, count, 20));
        Due.is("methods are found", bodies.size() > 90 ? 1 : 0, 1);
        Due.is("set is found", bodies.containsKey("BaselineGrid.set") ? 1 : 0, 1);
        for (String method : bodies.keySet()) {
            atMost("calls deep from " + method, depthOf(method, 0), 8);
        }
        Due.is("the deepest calls go through all of the setting", depths.get("BaselineGrid.set") >= 6 ? 1 : 0, 1);
        Due.end();
    }

    private static void atMost(String what, int count, int most) {
        Due.is(what + ": " + count + ", more than " + most, count > most ? 1 : 0, 0);
    }

    private static void read(List<String> lines) {
        String outer = "";
        String at = "";
        for (int i = 0; i < lines.size(); i++) {
            String line = lines.get(i).replaceAll("//.*", "");
            Matcher c = CLASS.matcher(line);
            if (c.find()) {
                outer = c.group(1).isEmpty() ? c.group(2) : outer;
                at = c.group(2);
                fields.put(at, 0);
            }
            Matcher m = METHOD.matcher(line);
            if (m.find() && !NO_CALLS.contains(m.group(2)) && !line.contains(" else ")) {
                String end = m.group(1) + "}";
                StringBuilder body = new StringBuilder();
                int length = 0;
                for (i++; i < lines.size() && !lines.get(i).equals(end); i++, length++) {
                    body.append(lines.get(i).replaceAll("//.*", "")).append('\n');
                }
                String name = at + "." + m.group(2);
                Due.is("one method of the name " + name, bodies.containsKey(name) ? 1 : 0, 0);
                bodies.put(name, body);
                atMost("lines of " + name, length, 60);
                atMost("parameters of " + name, m.group(3).isEmpty() ? 0 : m.group(3).split(",").length, 7);
            } else if (FIELD.matcher(line).find()) {
                fields.merge(at, 1, Integer::sum);
            }
            if (line.equals("    }") && !at.equals(outer)) {
                at = outer;
            }
        }
    }

    /** How many methods stand open at once, the first one counted; a method that calls itself never ends here. */
    private static int depthOf(String method, int open) {
        Integer known = depths.get(method);
        if (known != null) {
            return known;
        }
        if (open > 100) {
            return 1000;
        }
        int deepest = 0;
        Matcher calls = CALL.matcher(bodies.get(method));
        while (calls.find()) {
            String called = resolve(method.substring(0, method.indexOf('.')), calls.group(1), calls.group(2));
            deepest = called.isEmpty() ? deepest : Math.max(deepest, depthOf(called, open + 1));
        }
        depths.put(method, deepest + 1);
        return deepest + 1;
    }

    private static String resolve(String at, String object, String name) {
        if (NO_CALLS.contains(name) || "Math".equals(object) || "System".equals(object)) {
            return "";
        }
        String inside = object == null ? at : OBJECTS.get(object);
        String called = inside + "." + name;
        if (!bodies.containsKey(called) && object == null) {
            called = "BaselineGrid." + name;
        }
        Due.is("known: " + called + ", called in " + at, bodies.containsKey(called) ? 1 : 0, 1);
        return bodies.containsKey(called) ? called : "";
    }
}
