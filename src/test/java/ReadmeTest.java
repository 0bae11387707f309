import java.io.IOException;
import java.lang.reflect.InvocationTargetException;
import java.lang.reflect.Method;
import java.nio.file.Files;
import java.nio.file.Path;
import java.util.List;
import java.util.regex.Matcher;
import java.util.regex.Pattern;
import java.util.stream.Collectors;
import java.util.stream.Stream;

/** README.md is right: each call of its example answers what stands behind it, and its table names the tests. */
public final class ReadmeTest {
    private static final Pattern FILL = Pattern.compile("fill\\(spool, \"([^\"]*)\"\\);");
    private static final Pattern CALL = Pattern.compile("spool\\.(\\w+)\\(([^)]*)\\); // (\\S+)");

    public static void main(String[] args) throws IOException {
        String page = Files.readString(Path.of("README.md"));
        int start = page.indexOf("```java\n") + 8;
        MailSpool spool = new MailSpool();
        int calls = 0;
        for (String line : page.substring(start, page.indexOf("```", start)).split("\n")) {
            Matcher fill = FILL.matcher(line);
            Matcher call = CALL.matcher(line);
            if (fill.matches()) {
                Check.fill(spool, fill.group(1));
            } else if (call.matches()) {
                Check.due(line, answer(spool, call.group(1), call.group(2)), call.group(3));
                calls++;
            } else {
                boolean isOther = line.startsWith("// ") || line.equals("MailSpool spool = new MailSpool();");
                Check.due("a line of the example: " + line, isOther, true);
            }
        }
        Check.due("calls of the example", calls > 30, true);
        testsAreNamed(page);
        Check.end();
    }

    private static String answer(MailSpool spool, String name, String arguments) {
        List<String> texts = arguments.isEmpty() ? List.of() : List.of(arguments.split(", "));
        Object[] values = texts.stream().map(ReadmeTest::value).toArray();
        for (Method method : MailSpool.class.getMethods()) {
            if (method.getName().equals(name) && method.getParameterCount() == values.length) {
                try {
                    return String.valueOf(method.invoke(spool, values));
                } catch (InvocationTargetException e) {
                    return e.getCause().getClass().getSimpleName();
                } catch (IllegalAccessException e) {
                    return "no access";
                }
            }
        }
        return "no such method";
    }

    private static Object value(String text) {
        if (text.equals("true") || text.equals("false")) {
            return Boolean.valueOf(text);
        }
        return text.equals("MailSpool.NONE") ? Integer.valueOf(MailSpool.NONE) : Integer.valueOf(text);
    }

    private static void testsAreNamed(String page) throws IOException {
        String table = page.substring(page.indexOf("| --- |"));
        String named = Pattern.compile("\\w+Test\\b").matcher(table).results().map(m -> m.group()).sorted()
                .collect(Collectors.joining(" "));
        try (Stream<Path> files = Files.list(Path.of("src/test/java"))) {
            String there = files.map(f -> f.getFileName().toString()).filter(n -> n.endsWith("Test.java"))
                    .map(n -> n.replace(".java", "")).sorted().collect(Collectors.joining(" "));
            Check.due("the tests that README.md names", named, there);
        }
    }
}
