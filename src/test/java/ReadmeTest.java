import java.io.IOException;
import java.lang.reflect.Method;
import java.lang.reflect.Modifier;
import java.nio.file.Files;
import java.nio.file.Path;
import java.util.List;
import java.util.regex.Matcher;
import java.util.regex.Pattern;
import java.util.stream.Collectors;
import java.util.stream.Stream;

/** What README.md says holds: its example, its table of exceptions and its table of tests. */
public final class ReadmeTest {
    private static final Path README = Path.of("README.md");
    private static final Path TESTS = Path.of("src/test/java");
    private static final Pattern CALL = Pattern.compile("mirror\\.(\\w+)\\((.*)\\); +// (NONE|\\d+|true|false)\\b.*");
    private static final Pattern EXCEPTION = Pattern.compile("`(\\w+Exception)`");
    private static final Checks checks = new Checks();

    public static void main(String[] args) throws IOException {
        String text = Files.readString(README);
        exampleAnswers(exampleOf(text));
        exampleHasEveryMethod(exampleOf(text));
        exceptionsAreThoseOfTheFace(text);
        everyFileOfTheTestsIsNamed(text);
        checks.end();
    }

    private static List<String> exampleOf(String text) {
        int begin = text.indexOf("```java\n") + "```java\n".length();
        return text.substring(begin, text.indexOf("```", begin)).lines().toList();
    }

    private static void exampleAnswers(List<String> lines) {
        checks.answers("the first line", "BackMirror mirror = new BackMirror();", lines.get(0));
        BackMirror mirror = new BackMirror();
        for (String line : lines.subList(1, lines.size())) {
            Matcher call = CALL.matcher(line);
            boolean answered = call.matches();
            checks.holds(line + ": a call, and behind it an answer", answered);
            if (answered) {
                checks.answers(line, call.group(3), answer(mirror, call.group(1), call.group(2)));
            }
        }
    }

    private static void exampleHasEveryMethod(List<String> lines) {
        for (Method method : face()) {
            boolean stands = lines.stream().anyMatch(line -> line.startsWith("mirror." + method.getName() + "("));
            checks.holds(method.getName() + " stands in the example", stands);
        }
    }

    private static List<Method> face() {
        return Stream.of(BackMirror.class.getDeclaredMethods())
                .filter(method -> Modifier.isPublic(method.getModifiers())).toList();
    }

    private static String answer(BackMirror mirror, String name, String given) {
        Object[] arguments = Stream.of(given.split(", ")).filter(one -> !one.isEmpty())
                .map(one -> one.equals("BackMirror.NONE") ? BackMirror.NONE : Integer.parseInt(one)).toArray();
        for (Method method : face()) {
            if (method.getName().equals(name) && method.getParameterCount() == arguments.length) {
                return answer(mirror, method, arguments);
            }
        }
        return "no such method";
    }

    private static String answer(BackMirror mirror, Method method, Object[] arguments) {
        try {
            Object answer = method.invoke(mirror, arguments);
            return answer.equals(BackMirror.NONE) ? "NONE" : answer.toString();
        } catch (ReflectiveOperationException e) {
            return String.valueOf(e.getCause());
        }
    }

    /** In the order of the throws lines, since the one that stands first is thrown. */
    private static void exceptionsAreThoseOfTheFace(String text) {
        for (Method method : face()) {
            String due = Stream.of(method.getExceptionTypes())
                    .map(Class::getSimpleName).collect(Collectors.joining(", "));
            checks.answers("what " + method.getName() + " throws", due, exceptionsTold(text, method.getName()));
        }
    }

    private static String exceptionsTold(String text, String name) {
        for (String line : text.lines().toList()) {
            if (line.matches("\\| [^|]*`" + name + "`.*")) {
                return EXCEPTION.matcher(line).results()
                        .map(found -> found.group(1)).collect(Collectors.joining(", "));
            }
        }
        return "no row of the table";
    }

    private static void everyFileOfTheTestsIsNamed(String text) throws IOException {
        try (Stream<Path> files = Files.list(TESTS)) {
            for (Path file : files.toList()) {
                String name = file.getFileName().toString().replace(".java", "");
                checks.holds(name + " is named", text.contains("`" + name + "`"));
            }
        }
    }
}
