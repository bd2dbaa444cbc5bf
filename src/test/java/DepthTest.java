import java.io.PrintWriter;
import java.io.StringWriter;
import java.lang.reflect.Method;
import java.net.URISyntaxException;
import java.nio.file.Path;
import java.util.Map;
import java.util.Optional;
import java.util.Set;
import java.util.TreeMap;
import java.util.TreeSet;
import java.util.regex.Matcher;
import java.util.regex.Pattern;
import java.util.spi.ToolProvider;

/** Rules 8 and 11: how deep calls go, read off the compiled class; the library's calls count, too. */
public final class DepthTest {
    private static final Check CHECK = new Check("DepthTest");
    private static final int DEEPEST = 8;
    private static final Pattern HEAD = Pattern.compile("  \\S.*?([\\w$]+)\\([^)]*\\);");
    private static final Pattern CALL = Pattern.compile("// (?:Interface)?Method (?:([\\w/$]+)\\.)?\"?([\\w<>]+)\"?:");

    private final Map<String, Set<String>> calls = new TreeMap<>();
    private final Map<String, Integer> depths = new TreeMap<>();

    public static void main(String[] args) throws URISyntaxException {
        Optional<ToolProvider> javap = ToolProvider.findFirst("javap");
        if (javap.isEmpty()) {
            System.out.println("DepthTest: this Java has no javap, nothing was looked at");
            return;
        }
        DepthTest test = new DepthTest();
        test.read(javap.get(), TwoFliers.class);
        for (Class<?> c : TwoFliers.class.getDeclaredClasses()) {
            test.read(javap.get(), c);
        }
        test.look();
        CHECK.end();
    }

    private void read(ToolProvider javap, Class<?> c) throws URISyntaxException {
        Path place = Path.of(c.getProtectionDomain().getCodeSource().getLocation().toURI());
        StringWriter out = new StringWriter();
        PrintWriter printer = new PrintWriter(out);
        int exit = javap.run(printer, printer, "-p", "-c", place.resolve(c.getName() + ".class").toString());
        CHECK.due("javap of " + c.getName(), exit, 0);
        String caller = null;
        for (String line : out.toString().split("\\R")) {
            Matcher head = HEAD.matcher(line);
            Matcher call = CALL.matcher(line);
            if (head.matches()) {
                boolean makes = c.getName().endsWith(head.group(1));
                caller = c.getName() + "." + (makes ? "<init>" : head.group(1));
                calls.putIfAbsent(caller, new TreeSet<>());
            } else if (caller != null && call.find()) {
                String of = call.group(1) == null ? c.getName() : call.group(1);
                calls.get(caller).add(of + "." + call.group(2));
            }
        }
    }

    private void look() {
        for (Method m : TwoFliers.class.getDeclaredMethods()) {
            CHECK.due("read: " + m.getName(), calls.containsKey("TwoFliers." + m.getName()) ? 1 : 0, 1);
        }
        for (String caller : calls.keySet()) {
            int depth = depth(caller, new TreeSet<>());
            CHECK.due(caller + " goes " + depth + " calls deep, at most " + DEEPEST, depth <= DEEPEST ? 1 : 0, 1);
        }
        CHECK.due("some calls go deep", depth("TwoFliers.where", new TreeSet<>()) > 4 ? 1 : 0, 1);
    }

    /** How many calls stand open at once at most, this one too; a method's call of itself is the one recursion there is. */
    private int depth(String caller, Set<String> open) {
        CHECK.due("calls itself by way of others: " + caller, open.contains(caller) ? 1 : 0, 0);
        if (open.contains(caller) || !calls.containsKey(caller)) {
            return 1;
        }
        if (!depths.containsKey(caller)) {
            open.add(caller);
            int deepest = 0;
            for (String next : calls.get(caller)) {
                deepest = next.equals(caller) ? deepest : Math.max(deepest, depth(next, open));
            }
            open.remove(caller);
            depths.put(caller, 1 + deepest);
        }
        return depths.get(caller);
    }
}
