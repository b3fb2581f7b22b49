import java.lang.reflect.Constructor;
import java.lang.reflect.Field;
import java.lang.reflect.Method;
import java.lang.reflect.Modifier;
import java.nio.charset.StandardCharsets;
import java.nio.file.Files;
import java.nio.file.Path;
import java.util.ArrayList;
import java.util.List;
import java.util.Set;
import java.util.TreeSet;
import java.util.regex.Matcher;
import java.util.regex.Pattern;

/** The face of the document, and what can be seen of the rules of LANGUAGE.md, in the class and in its source. */
public final class LanguageTest {
    private static final String FACE = """
            book(int,int) bookTold(int,int) tie(int,boolean) deal(int) seed(int) set(int,int) board(int,int,int)
            told(int,int) as(int,int) turns(int,int) drop(int) judge(int) setting(int) line(int,int) allow(int)
            clear() cases(int) few(int,int) apart(int) edge() feed(int,int,int) trim(int) text() textTold(int,int)
            why(int) fullBy() most(int,int) wall(int,int) inch(int) shift(int,int) sheet(int,int,int)
            mark(int,int,int) pour(int,int) copy(int,int,int,int,int) lay(int,int,int) ask(int,int) item(int,int)
            rest(int,int) tell(int) check(int) keep() back() count(int)""";
    private static final String CONSTANTS = "BAD=-1000000001 FULL=-1000000003 INDEX=-1000000013 KIND=-1000000012 "
            + "NO=-1000000002 NONE=-1000000005 NOTHING=-1000000011 SIZE=-1000000014";

    public static void main(String[] args) throws Exception {
        face();
        constants();
        insideClasses();
        source();
        Due.end();
    }

    private static boolean isPrivate(int modifiers) {
        return Modifier.isPrivate(modifiers);
    }

    private static void face() {
        Set<String> want = new TreeSet<>(List.of(FACE.trim().split("\\s+")));
        Set<String> got = new TreeSet<>();
        for (Method m : BookBoards.class.getDeclaredMethods()) {
            if (!isPrivate(m.getModifiers())) {
                Due.isTrue(Modifier.isPublic(m.getModifiers()) && !Modifier.isStatic(m.getModifiers())
                        && m.getReturnType() == int.class, "method " + m);
                got.add(signature(m));
            }
        }
        Due.isTrue(want.equals(got), "the face is " + got);
        Due.is(44 - 1, got.size());
        Constructor<?>[] makers = BookBoards.class.getDeclaredConstructors();
        Due.is(1, makers.length);
        Due.isTrue(Modifier.isPublic(makers[0].getModifiers()) && makers[0].getParameterCount() == 0, "constructor");
        int modifiers = BookBoards.class.getModifiers();
        Due.isTrue(Modifier.isPublic(modifiers) && Modifier.isFinal(modifiers), "the class is public and final");
    }

    private static String signature(Method m) {
        List<String> types = new ArrayList<>();
        for (Class<?> type : m.getParameterTypes()) {
            types.add(type.getSimpleName());
        }
        return m.getName() + "(" + String.join(",", types) + ")";
    }

    private static void constants() throws IllegalAccessException {
        Set<String> got = new TreeSet<>();
        for (Field f : BookBoards.class.getDeclaredFields()) {
            if (!isPrivate(f.getModifiers())) {
                Due.isTrue(Modifier.isPublic(f.getModifiers()) && Modifier.isStatic(f.getModifiers())
                        && Modifier.isFinal(f.getModifiers()) && f.getType() == int.class, "field " + f);
                got.add(f.getName() + "=" + f.getInt(null));
            }
        }
        Due.isTrue(String.join(" ", got).equals(CONSTANTS), "the constants are " + got);
    }

    private static void insideClasses() {
        Class<?>[] inside = BookBoards.class.getDeclaredClasses();
        Due.isTrue(inside.length + 1 <= 12, "classes: " + inside.length);
        Set<String> names = new TreeSet<>();
        for (String each : FACE.trim().split("\\s+")) {
            names.add(each.substring(0, each.indexOf('(')));
        }
        ownMembers(BookBoards.class, names);
        for (Class<?> c : inside) {
            int m = c.getModifiers();
            Due.isTrue(Modifier.isStatic(m) && !Modifier.isPublic(m) && !Modifier.isProtected(m), "class " + c);
            ownMembers(c, names);
        }
    }

    private static void ownMembers(Class<?> c, Set<String> face) {
        int fields = 0;
        for (Field f : c.getDeclaredFields()) {
            boolean isStatic = Modifier.isStatic(f.getModifiers());
            Due.isTrue(!isStatic || Modifier.isFinal(f.getModifiers()), "a static field is final: " + f);
            fields += isStatic ? 0 : 1;
        }
        Due.isTrue(fields <= 20, c + " has " + fields + " fields");
        for (Method m : c.getDeclaredMethods()) {
            Due.isTrue(m.getParameterCount() <= 7, "parameters of " + m);
            boolean isOfFace = c == BookBoards.class && Modifier.isPublic(m.getModifiers());
            Due.isTrue(isOfFace || !face.contains(m.getName()), "a name of the face: " + m);
            Due.isTrue(!m.isSynthetic(), "made by the compiler: " + m);
        }
    }

    private static void source() throws Exception {
        String raw = Files.readString(Path.of("src/main/java/BookBoards.java"), StandardCharsets.UTF_8);
        String code = raw.replaceAll("(?s)/\\*.*?\\*/", "").replaceAll("//[^\n]*", "")
                .replaceAll("\"(\\\\.|[^\"\\\\])*\"", "\"\"").replaceAll("'(\\\\.|[^'\\\\])'", "''");
        String[] barred = {"\\bthrow\\b", "\\bthrows\\b", "\\btry\\b", "\\bcatch\\b", "\\bsynchronized\\b",
            "\\bassert\\b", "->", "::", "\\bpackage\\b", "\\bprotected\\b", "static\\s*\\{", "\\bdouble\\b",
            "\\bMath\\.\\w+Exact\\b", "\\bSystem\\.(?!arraycopy\\b)", "\\bThread\\b", "\\bObject\\b", "\\bvar\\b",
            "\\bhashCode\\b", "\\btoString\\b", "\\bequals\\b", "\"\\s*\\+", "\\+\\s*\""};
        for (String each : barred) {
            Due.isTrue(!Pattern.compile(each).matcher(code).find(), "the source has " + each);
        }
        Matcher imports = Pattern.compile("(?m)^import (.*);").matcher(code);
        while (imports.find()) {
            Due.isTrue(imports.group(1).equals("java.util.Arrays"), "import " + imports.group(1));
        }
        for (char c : raw.toCharArray()) {
            Due.isTrue(c < 128, "a sign beyond 127");
        }
        methodLengths(code);
    }

    /** A method begins with a line that opens a brace behind parameters, and ends with that brace. */
    private static void methodLengths(String code) {
        String[] lines = code.split("\n");
        Pattern head = Pattern.compile("^( {4}| {8})\\w[\\w\\[\\] ]*\\([^;]*\\) \\{$");
        int methods = 0;
        for (int i = 0; i < lines.length; i++) {
            Matcher m = head.matcher(lines[i]);
            if (m.matches() && !lines[i].trim().matches("(if|for|while|switch|else).*")) {
                int end = i;
                while (!lines[end].equals(m.group(1) + "}")) {
                    end++;
                }
                methods++;
                Due.isTrue(end - i + 1 <= 60, "a method of " + (end - i + 1) + " lines: " + lines[i].trim());
            }
        }
        Due.isTrue(methods > 100, "methods seen: " + methods);
    }
}
