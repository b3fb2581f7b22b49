import java.io.PrintWriter;
import java.io.StringWriter;
import java.net.URISyntaxException;
import java.nio.file.Path;
import java.util.ArrayList;
import java.util.List;
import java.util.Map;
import java.util.Optional;
import java.util.Set;
import java.util.TreeMap;
import java.util.TreeSet;
import java.util.regex.Matcher;
import java.util.regex.Pattern;
import java.util.spi.ToolProvider;

/** What the compiled class shows of the rules of LANGUAGE.md: what it calls, how deep, and what it never does. */
public final class CallsTest {
    /** Of rule 4, what the class needs. */
    private static final Set<String> LIBRARY = Set.of("java/lang/Math.max", "java/lang/Math.min",
            "java/lang/String.length", "java/lang/String.charAt", "java/lang/String.indexOf",
            "java/lang/System.arraycopy", "java/util/Arrays.copyOf", "java/util/Arrays.fill",
            "java/lang/Object.<init>");
    private static final int MOST_DEEP = 8;
    private static final Pattern HEAD = Pattern.compile("^  (\\w[^(]*[ .$])?([\\w$]+)\\(.*\\);$");
    private static final Pattern CALLED = Pattern.compile(" invoke\\w+ .*// (?:Interface)?Method ([^:]+):");

    private static final Map<String, Set<String>> CALLS = new TreeMap<>();
    private static final Set<String> PRIVATE = new TreeSet<>();

    private CallsTest() {
    }

    public static void main(String[] args) throws URISyntaxException {
        Optional<ToolProvider> javap = ToolProvider.findFirst("javap");
        if (javap.isEmpty()) {
            System.out.println("this Java has no javap: nothing is looked at");
            return;
        }
        look(javap.get(), BookBoards.class);
        for (Class<?> inside : BookBoards.class.getDeclaredClasses()) {
            look(javap.get(), inside);
        }
        Due.isTrue(CALLS.size() > 100, "methods seen: " + CALLS.size());
        library();
        deep();
        recursion();
        Due.end();
    }

    private static void look(ToolProvider javap, Class<?> of) throws URISyntaxException {
        StringWriter out = new StringWriter();
        String where = Path.of(of.getProtectionDomain().getCodeSource().getLocation().toURI()).toString();
        int ended = javap.run(new PrintWriter(out), new PrintWriter(out), "-p", "-c", "-cp", where, of.getName());
        Due.is(0, ended);
        String method = "";
        for (String line : out.toString().split("\\R")) {
            Matcher head = HEAD.matcher(line);
            Matcher called = CALLED.matcher(line);
            if (head.matches()) {
                boolean isMaker = of.getName().endsWith(head.group(2));
                method = of.getName() + "." + (isMaker ? "<init>" : head.group(2));
                CALLS.computeIfAbsent(method, name -> new TreeSet<>());
                if (line.startsWith("  private ")) {
                    PRIVATE.add(method);
                }
            } else if (line.equals("  static {};")) {
                method = of.getName() + ".<clinit>";
            } else if (called.find()) {
                String to = called.group(1).replace("\"", "");
                CALLS.computeIfAbsent(method, name -> new TreeSet<>())
                        .add(to.contains(".") ? to : of.getName() + "." + to);
            }
            never(line, method);
        }
    }

    private static void never(String line, String method) {
        for (String each : List.of(" athrow", " monitorenter", " invokedynamic", "Exception table")) {
            Due.isTrue(!line.contains(each), method + " has " + each.trim());
        }
        Due.isTrue(!line.contains(" putstatic") || method.endsWith(".<clinit>"), method + " changes what is static");
    }

    private static void library() {
        for (Map.Entry<String, Set<String>> each : CALLS.entrySet()) {
            for (String to : each.getValue()) {
                Due.isTrue(CALLS.containsKey(to) || LIBRARY.contains(to), each.getKey() + " calls " + to);
            }
        }
    }

    /** A method that is open already is not gone through again: that is recursion, which rule 8 bounds. */
    private static void deep() {
        for (String method : CALLS.keySet()) {
            List<String> way = longest(method, new TreeSet<>(Set.of(method)));
            Due.isTrue(way.size() <= MOST_DEEP, way.size() + " deep: " + way);
        }
    }

    private static List<String> longest(String method, Set<String> open) {
        List<String> best = List.of();
        for (String to : CALLS.getOrDefault(method, Set.of())) {
            if (open.add(to)) {
                List<String> way = longest(to, open);
                best = way.size() > best.size() ? way : best;
                open.remove(to);
            }
        }
        List<String> all = new ArrayList<>(List.of(method));
        all.addAll(best);
        return all;
    }

    private static void recursion() {
        Set<String> again = new TreeSet<>();
        for (String method : CALLS.keySet()) {
            if (reaches(method, method, new TreeSet<>())) {
                again.add(method);
                Due.isTrue(PRIVATE.contains(method), "recursion of what is not private: " + method);
            }
        }
        Due.isTrue(again.equals(Set.of("BookBoards$Reader.reads", "BookBoards$Reader.readsPiece")),
                "recursion of " + again);
    }

    private static boolean reaches(String from, String to, Set<String> seen) {
        for (String next : CALLS.getOrDefault(from, Set.of())) {
            if (next.equals(to) || (seen.add(next) && reaches(next, to, seen))) {
                return true;
            }
        }
        return false;
    }
}
