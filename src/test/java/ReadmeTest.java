import java.io.IOException;
import java.lang.reflect.InvocationTargetException;
import java.lang.reflect.Method;
import java.lang.reflect.Modifier;
import java.nio.file.DirectoryStream;
import java.nio.file.Files;
import java.nio.file.Path;
import java.util.ArrayList;
import java.util.List;
import java.util.Set;
import java.util.TreeSet;
import java.util.regex.Matcher;
import java.util.regex.Pattern;

/** What README.md shows: the calls of its examples with their answers, the face, the tests' names. */
final class ReadmeTest {
    private static final String FIRST_LINE = "FlitTorus net = new FlitTorus();";
    /** A call, and behind it its answer, which a word of why may follow. */
    private static final Pattern CALL = Pattern.compile("net\\.(\\w+)\\(([^()]*)\\);\\s+// (-?\\w+)(: .+)?");
    private static final Pattern TEST_NAME = Pattern.compile("`(\\w+Test)`");
    private static final Path README = Path.of(System.getProperty("readme", "README.md")).toAbsolutePath();

    public static void main(String[] args) throws IOException {
        Check check = new Check("ReadmeTest");
        String text = Files.readString(README);
        List<List<String>> examples = examples(text);
        Set<String> shown = new TreeSet<>();
        check.isTrue("there are examples", !examples.isEmpty());
        for (List<String> example : examples) {
            follow(check, example, shown);
        }
        face(check, text, shown);
        whats(check, text);
        tests(check, text);
        check.end();
    }

    private static List<List<String>> examples(String text) {
        List<List<String>> all = new ArrayList<>();
        List<String> open = null;
        for (String line : text.split("\n")) {
            if (line.equals("```java")) {
                open = new ArrayList<>();
                all.add(open);
            } else if (line.startsWith("```")) {
                open = null;
            } else if (open != null) {
                open.add(line);
            }
        }
        return all;
    }

    /** A line that can't be read is a fault: no call of an example goes untried. */
    private static void follow(Check check, List<String> example, Set<String> shown) {
        check.isTrue("an example begins with " + FIRST_LINE, !example.isEmpty() && example.get(0).equals(FIRST_LINE));
        FlitTorus net = new FlitTorus();
        for (String line : example.subList(1, example.size())) {
            Matcher call = CALL.matcher(line);
            boolean isCall = call.matches();
            check.isTrue("is a call with its answer: " + line, isCall);
            if (isCall) {
                String got = answer(net, call.group(1), call.group(2));
                String due = call.group(3).equals("NONE") ? "-1" : call.group(3);
                check.equal("README.md: " + line, got, due);
                shown.add(call.group(1));
            }
        }
    }

    private static String answer(FlitTorus net, String name, String args) {
        String[] texts = args.isEmpty() ? new String[0] : args.split(", ");
        for (Method method : FlitTorus.class.getMethods()) {
            if (method.getName().equals(name) && method.getParameterCount() == texts.length) {
                return answer(net, method, texts);
            }
        }
        return "no such call";
    }

    private static String answer(FlitTorus net, Method method, String[] texts) {
        Object[] values = new Object[texts.length];
        for (int i = 0; i < texts.length; i++) {
            boolean isInt = method.getParameterTypes()[i] == int.class;
            if (!texts[i].matches(isInt ? "-?\\d+" : "true|false")) {
                return "not to be read: " + texts[i];
            }
            values[i] = isInt ? (Object) Integer.valueOf(texts[i]) : (Object) Boolean.valueOf(texts[i]);
        }
        try {
            return String.valueOf(method.invoke(net, values));
        } catch (InvocationTargetException e) {
            return e.getCause().getClass().getSimpleName();
        } catch (IllegalAccessException e) {
            return "no call for everybody";
        }
    }

    private static void face(Check check, String text, Set<String> shown) {
        for (Method method : FlitTorus.class.getDeclaredMethods()) {
            if (Modifier.isPublic(method.getModifiers())) {
                Pattern heading = Pattern.compile("^### `" + signature(method) + "`$", Pattern.MULTILINE);
                check.isTrue("has a heading for " + method, heading.matcher(text).find());
                check.isTrue("an example calls " + method, shown.contains(method.getName()));
            }
        }
    }

    /** As a pattern, since the names of the parameters are not to be had. */
    private static String signature(Method method) {
        List<String> parameters = new ArrayList<>();
        for (Class<?> type : method.getParameterTypes()) {
            parameters.add(type.getSimpleName() + " \\w+");
        }
        List<String> thrown = new ArrayList<>();
        for (Class<?> type : method.getExceptionTypes()) {
            thrown.add(type.getSimpleName());
        }
        String behind = thrown.isEmpty() ? "" : " throws " + String.join(", ", thrown);
        return method.getReturnType().getSimpleName() + " " + method.getName() + "\\("
                + String.join(", ", parameters) + "\\)" + behind;
    }

    /** The tables have each what that is answered, and none besides, where there is something to tell of. */
    private static void whats(Check check, String text) {
        FlitTorus net = new FlitTorus();
        net.put(0, 1, 1, 5);
        net.put(0, 1, 1, 6);
        Nets.run(net, 2);
        net.take(1);
        for (int what = -1; what < 12; what++) {
            table(check, text, "taken", what, net.taken(1, what));
            table(check, text, "count", what, net.count(what));
            table(check, text, "node", what, net.node(1, what));
            table(check, text, "golden", what, net.golden(what));
            table(check, text, "flit", what, net.flit(1, 0, what));
        }
    }

    private static void table(Check check, String text, String call, int what, int answer) {
        int start = text.indexOf("### `int " + call + "(");
        int end = text.indexOf("\n##", start);
        boolean isThere = start >= 0 && end >= 0 && text.substring(start, end).contains("\n| " + what + " |");
        check.isTrue("the table of " + call + " and what " + what, isThere == (answer != FlitTorus.NONE));
    }

    private static void tests(Check check, String text) throws IOException {
        Set<String> named = new TreeSet<>();
        Matcher name = TEST_NAME.matcher(text);
        while (name.find()) {
            named.add(name.group(1));
        }
        Set<String> there = new TreeSet<>();
        Path folder = README.resolveSibling("src/test/java");
        try (DirectoryStream<Path> files = Files.newDirectoryStream(folder, "*Test.java")) {
            for (Path file : files) {
                there.add(file.getFileName().toString().replace(".java", ""));
            }
        }
        check.equal("which tests README.md names", named.toString(), there.toString());
    }
}
