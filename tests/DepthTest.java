import java.io.File;
import java.io.PrintWriter;
import java.io.StringWriter;
import java.net.URISyntaxException;
import java.util.ArrayList;
import java.util.HashMap;
import java.util.HashSet;
import java.util.List;
import java.util.Map;
import java.util.Set;
import java.util.TreeSet;
import java.util.regex.Matcher;
import java.util.regex.Pattern;
import java.util.spi.ToolProvider;

/** Rules 8 and 11 of LANGUAGE.md: no method calls itself, and calls go at most eight deep, those of the library too. */
public final class DepthTest {
    private static final int MOST_DEEP = 8;
    private static final Pattern HEAD = Pattern.compile("  [\\w$.\\[\\] ]*?([\\w$]+)\\(.*\\)(?: throws .*)?;");
    private static final Pattern CALL = Pattern.compile(".*// Method (?:([\\w$/]+)\\.)?\"?([\\w<>$]+)\"?:.*");

    private static final Map<String, Set<String>> CALLS = new HashMap<>();
    private static final Map<String, Integer> DEPTHS = new HashMap<>();

    public static void main(String[] args) throws URISyntaxException {
        if (ToolProvider.findFirst("javap").isEmpty()) {
            System.out.println("DepthTest: without javap nothing can be looked at");
            return;
        }
        List<Class<?>> all = new ArrayList<>(List.of(OpeningsCabinet.class.getDeclaredClasses()));
        all.add(OpeningsCabinet.class);
        for (Class<?> type : all) {
            readCalls(type.getName());
        }
        Check.same("methods were found", CALLS.size() > 150, true);
        int deepest = 0;
        for (String method : CALLS.keySet()) {
            int depth = depthOf(method, new HashSet<>());
            deepest = Math.max(deepest, depth);
            Check.same(method + " is at most " + MOST_DEEP + " calls deep: " + depth, depth <= MOST_DEEP, true);
        }
        Check.same("calls of calls were found", deepest > 4, true);
        Check.end("DepthTest");
    }

    /** Which methods each method of a class calls, by the class file. */
    private static void readCalls(String type) throws URISyntaxException {
        File directory = new File(OpeningsCabinet.class.getProtectionDomain().getCodeSource().getLocation().toURI());
        StringWriter out = new StringWriter();
        PrintWriter writer = new PrintWriter(out);
        ToolProvider.findFirst("javap").orElseThrow().run(writer, writer, "-c", "-p",
                new File(directory, type + ".class").getPath());
        Set<String> called = null;
        for (String line : out.toString().split("\\R")) {
            Matcher head = HEAD.matcher(line);
            Matcher call = CALL.matcher(line);
            if (head.matches()) {
                String name = head.group(1).equals(type) ? "<init>" : head.group(1);
                called = CALLS.computeIfAbsent(type + "." + name, key -> new TreeSet<>());
            } else if (call.matches() && called != null) {
                called.add((call.group(1) == null ? type : call.group(1)) + "." + call.group(2));
            }
        }
    }

    private static int depthOf(String method, Set<String> open) {
        if (DEPTHS.containsKey(method)) {
            return DEPTHS.get(method);
        }
        Check.same(method + " calls itself", open.add(method), true);
        int depth = 0;
        for (String called : CALLS.getOrDefault(method, Set.of())) {
            depth = Math.max(depth, open.contains(called) ? MOST_DEEP : depthOf(called, open));
        }
        open.remove(method);
        DEPTHS.put(method, depth + 1);
        return depth + 1;
    }
}
