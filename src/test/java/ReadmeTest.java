import java.io.IOException;
import java.lang.reflect.InvocationTargetException;
import java.lang.reflect.Method;
import java.lang.reflect.Modifier;
import java.nio.file.Files;
import java.nio.file.Path;
import java.util.ArrayList;
import java.util.List;
import java.util.Set;
import java.util.TreeSet;
import java.util.regex.Matcher;
import java.util.regex.Pattern;
import java.util.stream.Collectors;
import java.util.stream.Stream;

/** What README.md shows: its calls with the answers behind them, its constants, and the names of the tests. */
public final class ReadmeTest {
    private static final String MADE = "BookBoards x = new BookBoards();";
    private static final Pattern CALL = Pattern.compile("x\\.(\\w+)\\(([^()]*)\\);\\s*// (-?\\d+|[A-Z]+)(:.*)?");
    private static final Pattern CONSTANT = Pattern.compile("(?m)^\\| `([A-Z]+)` \\| (-?\\d+) \\|");
    private static final int MOST_CALLS = 512;

    private static final Set<String> SHOWN = new TreeSet<>();
    private static final Set<String> ANSWERS = new TreeSet<>();

    private ReadmeTest() {
    }

    public static void main(String[] args) throws ReflectiveOperationException, IOException {
        String page = Files.readString(Path.of("README.md"));
        List<String> prose = new ArrayList<>();
        List<List<String>> blocks = new ArrayList<>();
        part(page, prose, blocks);
        Due.isTrue(!blocks.isEmpty(), "README.md shows no calls");
        for (List<String> block : blocks) {
            run(block);
        }
        Due.by("");
        noCallBesideBlocks(prose);
        eachCallIsShown();
        constants(page);
        tests(page);
        Due.end();
    }

    /** Lines of java blocks by block, and all other lines. */
    private static void part(String page, List<String> prose, List<List<String>> blocks) {
        boolean isInside = false;
        for (String line : page.split("\n")) {
            if (line.startsWith("```")) {
                isInside = line.equals("```java");
                if (isInside) {
                    blocks.add(new ArrayList<>());
                }
            } else if (isInside) {
                blocks.get(blocks.size() - 1).add(line.trim());
            } else {
                prose.add(line);
            }
        }
    }

    /** A block makes its object first; each line behind that is a call with its answer, and is run. */
    private static void run(List<String> block) throws ReflectiveOperationException {
        Due.by("README.md: " + (block.isEmpty() ? "an empty block" : block.get(0)));
        Due.isTrue(block.size() > 1 && block.get(0).equals(MADE), "a block makes its object first");
        Due.isTrue(block.size() - 1 <= MOST_CALLS, "a block has more calls than an object is used for");
        BookBoards x = new BookBoards();
        for (String line : block.subList(Math.min(1, block.size()), block.size())) {
            Due.by("README.md: " + line);
            Matcher m = CALL.matcher(line);
            boolean isCall = m.matches();
            Due.isTrue(isCall, "a line that is no call with its answer");
            if (isCall) {
                Due.is(number(m.group(3)), call(x, m.group(1), m.group(2)));
                ANSWERS.add(m.group(3));
            }
        }
    }

    private static int call(BookBoards x, String name, String list) throws ReflectiveOperationException {
        String[] args = list.isBlank() ? new String[0] : list.split(",");
        for (Method method : face()) {
            Class<?>[] types = method.getParameterTypes();
            if (method.getName().equals(name) && types.length == args.length) {
                Object[] values = new Object[args.length];
                for (int i = 0; i < args.length; i++) {
                    values[i] = value(types[i], args[i].trim());
                }
                SHOWN.add(name);
                return invoke(x, method, values);
            }
        }
        throw new NoSuchMethodException(name + " with " + args.length + " numbers");
    }

    private static int invoke(BookBoards x, Method method, Object[] values) throws ReflectiveOperationException {
        try {
            return (int) method.invoke(x, values);
        } catch (InvocationTargetException e) {
            throw new IllegalStateException(method.getName() + " throws", e.getCause());
        }
    }

    private static Object value(Class<?> type, String word) throws ReflectiveOperationException {
        if (type == boolean.class) {
            Due.isTrue(word.equals("true") || word.equals("false"), word + " is no boolean");
            return word.equals("true");
        }
        Due.isTrue(!word.matches("[A-Z]+"), word + " stands without its class");
        return number(word.replace("BookBoards.", ""));
    }

    private static int number(String word) throws ReflectiveOperationException {
        if (word.matches("[A-Z]+")) {
            return BookBoards.class.getField(word).getInt(null);
        }
        return word.startsWith("0x") ? Integer.parseUnsignedInt(word.substring(2), 16) : Integer.parseInt(word);
    }

    private static List<Method> face() {
        return Stream.of(BookBoards.class.getDeclaredMethods()).filter(m -> Modifier.isPublic(m.getModifiers()))
                .collect(Collectors.toList());
    }

    /** Else it would not be run. */
    private static void noCallBesideBlocks(List<String> prose) {
        for (String line : prose) {
            Due.isTrue(!line.matches(".*\\bx\\.\\w+\\(.*"), "a call beside the blocks: " + line);
        }
    }

    private static void eachCallIsShown() {
        Set<String> names = face().stream().map(Method::getName).collect(Collectors.toCollection(TreeSet::new));
        names.removeAll(SHOWN);
        Due.isTrue(names.isEmpty(), "README.md does not show " + names);
    }

    /** The table has each constant with its number, and each is an answer that a call shows. */
    private static void constants(String page) throws ReflectiveOperationException {
        Set<String> told = new TreeSet<>();
        Matcher m = CONSTANT.matcher(page);
        while (m.find()) {
            Due.is(BookBoards.class.getField(m.group(1)).getInt(null), Integer.parseInt(m.group(2)));
            told.add(m.group(1));
        }
        Set<String> all = Stream.of(BookBoards.class.getFields()).map(f -> f.getName())
                .collect(Collectors.toCollection(TreeSet::new));
        Due.isTrue(told.equals(all), "the table has " + told);
        Due.isTrue(ANSWERS.containsAll(all), "answers that are shown: " + ANSWERS);
    }

    private static void tests(String page) throws IOException {
        Due.isTrue(page.contains("at most " + MOST_CALLS + " calls"), "for how many calls an object is used");
        Due.isTrue(page.contains("bash .ci/run") && Files.isExecutable(Path.of(".ci/run")), "how tests are run");
        Set<String> there = new TreeSet<>();
        try (Stream<Path> files = Files.list(Path.of("src/test/java"))) {
            files.map(f -> f.getFileName().toString().replace(".java", "")).forEach(there::add);
        }
        for (String name : there) {
            Due.isTrue(!name.endsWith("Test") || page.contains("`" + name + "`"), "README.md does not name " + name);
        }
        Matcher m = Pattern.compile("`(\\w+Test)`").matcher(page);
        while (m.find()) {
            Due.isTrue(there.contains(m.group(1)), "there is no " + m.group(1));
        }
    }
}
