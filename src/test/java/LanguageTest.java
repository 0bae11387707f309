import java.io.IOException;
import java.lang.reflect.Field;
import java.lang.reflect.Method;
import java.lang.reflect.Modifier;
import java.nio.file.Files;
import java.nio.file.Path;
import java.util.ArrayList;
import java.util.List;
import java.util.regex.Matcher;
import java.util.regex.Pattern;

/** Some of the rules of ../shared/LANGUAGE.md, those that a text or a class file shows at a glance. */
public final class LanguageTest {
    private static final String[] FORBIDDEN = {"->", "::", "\\bcatch\\b", "\\bfinally\\b", "\\bsynchronized\\b",
            "\\bassert\\b", "\\bvar\\b", "\\bpackage\\b", "\\bMap\\b", "\\bRandom\\b", "\\bThread\\b", "\\bnanoTime\\b",
            "\\bcurrentTimeMillis\\b", "\\bhashCode\\b", "\\bstatic \\{", "\\w+Exact\\b", "\\bthrow (?!new )",
            "\\bObject\\b", "\\bfloat\\b", "\\bString\\[\\]", "\\bequals\\b"};

    public static void main(String[] args) throws IOException {
        String source = Files.readString(Path.of("src/main/java/MailSpool.java"));
        String code = source.replaceAll("(?s)/\\*.*?\\*/", "").replaceAll("//[^\n]*", "").replaceAll("\"[^\"\n]*\"", "\"\"");
        for (String pattern : FORBIDDEN) {
            Check.due("uses of " + pattern, Pattern.compile(pattern).matcher(code).results().count(), 0);
        }
        Check.due("signs beyond 127", source.chars().filter(c -> c > 127).count(), 0);
        imports(code);
        methodLengths(code);
        Class<?>[] inside = MailSpool.class.getDeclaredClasses();
        Check.due("at most some twelve classes", inside.length <= 12, true);
        classRules(MailSpool.class);
        for (Class<?> one : inside) {
            Check.due(one + " is static", Modifier.isStatic(one.getModifiers()), true);
            Check.due(one + " is private", Modifier.isPrivate(one.getModifiers()), true);
            classRules(one);
        }
        Check.end();
    }

    private static void imports(String code) {
        List<String> names = new ArrayList<>();
        Matcher lines = Pattern.compile("import ([^;]+);").matcher(code);
        while (lines.find()) {
            names.add(lines.group(1));
        }
        Check.due("imports", names.toString(), "[java.util.Arrays, java.util.NoSuchElementException]");
    }

    private static void methodLengths(String code) {
        int start = 0;
        int line = 0;
        for (String text : code.split("\n", -1)) {
            line++;
            if (text.matches(" {4}(?: {4})?[^ ].*\\{")) {
                start = line;
            }
            if (text.matches(" {8}\\}")) {
                Check.due("a method of at most sixty lines, to line " + line, line - start < 60, true);
            }
        }
    }

    private static void classRules(Class<?> type) {
        int fields = 0;
        for (Field field : type.getDeclaredFields()) {
            if (Modifier.isStatic(field.getModifiers())) {
                Check.due(field + " is final", Modifier.isFinal(field.getModifiers()), true);
            } else {
                fields++;
            }
        }
        Check.due(type + " has at most some twenty fields", fields <= 20, true);
        for (Method method : type.getDeclaredMethods()) {
            Check.due(method + " takes at most seven", method.getParameterCount() <= 7, true);
        }
    }
}
