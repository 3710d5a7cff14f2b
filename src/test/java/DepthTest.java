import java.io.PrintWriter;
import java.io.StringWriter;
import java.util.ArrayList;
import java.util.List;
import java.util.Map;
import java.util.Set;
import java.util.TreeMap;
import java.util.TreeSet;
import java.util.regex.Matcher;
import java.util.regex.Pattern;
import java.util.spi.ToolProvider;

/** Rule 11 of LANGUAGE.md: calls that are no recursion go at most eight deep. Read from the compiled class by javap. */
public final class DepthTest {
    private static final Pattern METHOD = Pattern.compile(" {2}\\S.*?([\\w$]+)\\(.*\\).*;");
    private static final Pattern CALL = Pattern.compile(".*invoke\\w+ .*// Method ([\\w$/]+\\.)?\"?([\\w<>$]+)\"?:.*");
    private static final Map<String, Set<String>> CALLS = new TreeMap<>();
    private static final Set<String> RECURSIVE = new TreeSet<>();

    public static void main(String[] args) {
        ToolProvider javap = ToolProvider.findFirst("javap").orElse(null);
        if (javap == null) {
            System.out.println("no javap in this Java: not looked at");
        } else {
            look(javap);
            Check.due("methods found", CALLS.size() > 100, true);
            for (String method : CALLS.keySet()) {
                if (method.startsWith("WardrobeRow.")) {
                    List<String> deepest = deepestFrom(method, new ArrayList<>());
                    Check.due("at most eight deep: " + deepest, deepest.size() <= 8, true);
                }
            }
            Check.dueText("what calls itself", RECURSIVE.toString(),
                "[WardrobeRow$Sentence.readCond, WardrobeRow$Sentence.readOne]");
        }
        Check.close();
    }

    private static void look(ToolProvider javap) {
        List<String> names = new ArrayList<>(List.of("WardrobeRow"));
        for (Class<?> nested : WardrobeRow.class.getDeclaredClasses()) {
            names.add(nested.getName());
        }
        for (String name : names) {
            StringWriter out = new StringWriter();
            PrintWriter writer = new PrintWriter(out);
            javap.run(writer, writer, "-p", "-c", "-classpath", System.getProperty("java.class.path"), name);
            String current = "";
            for (String line : out.toString().split("\n")) {
                Matcher method = METHOD.matcher(line);
                Matcher call = CALL.matcher(line);
                if (method.matches()) {
                    current = name + "." + (name.endsWith(method.group(1)) ? "<init>" : method.group(1));
                    CALLS.putIfAbsent(current, new TreeSet<>());
                } else if (call.matches() && !current.isEmpty()) {
                    CALLS.get(current).add((call.group(1) == null ? name + "." : call.group(1)) + call.group(2));
                }
            }
        }
    }

    /** The longest row of methods of the class that stand open at once, each in it once. */
    private static List<String> deepestFrom(String method, List<String> open) {
        List<String> deepest = List.of();
        open.add(method);
        for (String called : CALLS.get(method)) {
            if (open.contains(called)) {
                RECURSIVE.addAll(open.subList(open.indexOf(called), open.size()));
            } else if (CALLS.containsKey(called)) {
                List<String> below = deepestFrom(called, open);
                deepest = below.size() > deepest.size() ? below : deepest;
            }
        }
        open.remove(open.size() - 1);
        List<String> all = new ArrayList<>(List.of(method));
        all.addAll(deepest);
        return all;
    }
}
