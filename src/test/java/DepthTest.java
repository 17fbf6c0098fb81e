import java.io.PrintWriter;
import java.io.StringWriter;
import java.nio.file.Path;
import java.util.HashMap;
import java.util.Map;
import java.util.Set;
import java.util.TreeMap;
import java.util.TreeSet;
import java.util.regex.Matcher;
import java.util.regex.Pattern;
import java.util.spi.ToolProvider;
import java.util.stream.Stream;

/** No call goes more than eight deep, the library's included, and none comes back to itself: read from the compiled classes. */
public final class DepthTest {
    private static final int MOST = 8;
    private static final Pattern METHOD = Pattern.compile("^  \\S.*?([\\w$]+)\\(.*\\).*;$");
    private static final Pattern CALL = Pattern.compile("invoke\\w+ .*// (?:Interface)?Method ([\\w/$\"<>.\\[]+?):");
    private static final Map<String, Set<String>> CALLS = new TreeMap<>();
    private static final Map<String, Integer> DEPTHS = new HashMap<>();

    public static void main(String[] args) throws Exception {
        Path classes = Path.of(RepairStudio.class.getProtectionDomain().getCodeSource().getLocation().toURI());
        Stream.concat(Stream.of(RepairStudio.class), Stream.of(RepairStudio.class.getDeclaredClasses()))
                .forEach(c -> read(c.getName(), disassembled(classes.resolve(c.getName() + ".class"))));
        Check.same("methods were found", CALLS.size() > 100, true);
        for (String method : CALLS.keySet()) {
            Check.same(method + " goes at most " + MOST + " deep", depth(method, 1) <= MOST, true);
        }
        Check.report("DepthTest");
    }

    private static String disassembled(Path file) {
        StringWriter text = new StringWriter();
        PrintWriter out = new PrintWriter(text);
        int code = ToolProvider.findFirst("javap").orElseThrow().run(out, out, "-c", "-p", file.toString());
        Check.same("javap reads " + file.getFileName(), code, 0);
        return text.toString();
    }

    private static void read(String type, String text) {
        Set<String> calls = new TreeSet<>();
        for (String line : text.split("\n")) {
            Matcher method = METHOD.matcher(line);
            Matcher call = CALL.matcher(line);
            if (method.matches()) {
                String name = method.group(1).equals(type) ? "<init>" : method.group(1);
                calls = CALLS.computeIfAbsent(type + "." + name, k -> new TreeSet<>());
            } else if (call.find()) {
                String called = call.group(1).replace("\"", "");
                calls.add(called.contains(".") ? called : type + "." + called);
            }
        }
    }

    /** Calls that come back to themselves run into the bound and so count as too deep. */
    private static int depth(String method, int open) {
        if (!CALLS.containsKey(method) || open > 3 * MOST) return 1;
        if (DEPTHS.containsKey(method)) return DEPTHS.get(method);
        int most = 0;
        for (String called : CALLS.get(method)) {
            if (!called.equals("java/lang/Object.<init>")) most = Math.max(most, depth(called, open + 1));
        }
        DEPTHS.put(method, most + 1);
        return most + 1;
    }
}
