import java.io.IOException;
import java.lang.reflect.Constructor;
import java.lang.reflect.Field;
import java.lang.reflect.Method;
import java.lang.reflect.Modifier;
import java.nio.file.Files;
import java.nio.file.Path;
import java.util.TreeSet;

/** The class has the face of the document and nothing beside it. */
public final class FaceTest {
    public static void main(String[] args) throws IOException {
        String doc = Files.readString(Path.of("../shared/DOC.md"));
        int start = doc.indexOf("public final class MailSpool {");
        String face = doc.substring(start, doc.indexOf("```", start));
        TreeSet<String> want = new TreeSet<>();
        for (String line : face.split("\n")) {
            if (line.startsWith("    public ")) {
                want.add(line.trim().replaceAll("(int|boolean) \\w+([,)])", "$1$2"));
            }
        }
        Check.due("members of the document's face", want.size(), 63);
        Check.due("the face", members().toString(), want.toString());
        Check.due("public and final", MailSpool.class.getModifiers(), Modifier.PUBLIC | Modifier.FINAL);
        Check.due("NONE", MailSpool.NONE, -1);
        Check.due("BOUNCED", MailSpool.BOUNCED, -2);
        Check.due("PARSE_ERROR", MailSpool.PARSE_ERROR, -4);
        privateNames();
        Check.end();
    }

    private static TreeSet<String> members() throws SecurityException {
        TreeSet<String> got = new TreeSet<>();
        for (Method method : MailSpool.class.getDeclaredMethods()) {
            if (!Modifier.isPrivate(method.getModifiers()) && !method.isSynthetic()) {
                got.add(Modifier.toString(method.getModifiers()) + " " + method.getReturnType().getSimpleName() + " "
                        + method.getName() + types(method.getParameterTypes()) + thrown(method.getExceptionTypes()) + ";");
            }
        }
        for (Constructor<?> maker : MailSpool.class.getDeclaredConstructors()) {
            got.add(Modifier.toString(maker.getModifiers()) + " MailSpool" + types(maker.getParameterTypes()) + ";");
        }
        for (Field field : MailSpool.class.getDeclaredFields()) {
            if (!Modifier.isPrivate(field.getModifiers()) && !field.isSynthetic()) {
                got.add(Modifier.toString(field.getModifiers()) + " int " + field.getName() + " = " + constant(field) + ";");
            }
        }
        return got;
    }

    private static int constant(Field field) {
        try {
            return field.getInt(null);
        } catch (IllegalAccessException e) {
            return 0;
        }
    }

    private static String types(Class<?>[] types) {
        StringBuilder all = new StringBuilder("(");
        for (int i = 0; i < types.length; i++) {
            all.append(i == 0 ? "" : ", ").append(types[i].getSimpleName());
        }
        return all.append(')').toString();
    }

    private static String thrown(Class<?>[] types) {
        String all = types(types);
        return types.length == 0 ? "" : " throws " + all.substring(1, all.length() - 1);
    }

    private static void privateNames() {
        TreeSet<String> names = new TreeSet<>();
        for (Method method : MailSpool.class.getMethods()) {
            names.add(method.getName());
        }
        for (Class<?> inside : MailSpool.class.getDeclaredClasses()) {
            if (!inside.isEnum()) {
                for (Method method : inside.getDeclaredMethods()) {
                    Check.due(inside + "." + method.getName() + " bears a public name", names.contains(method.getName()), false);
                }
            }
        }
        for (Method method : MailSpool.class.getDeclaredMethods()) {
            if (Modifier.isPrivate(method.getModifiers())) {
                Check.due(method.getName() + " bears a public name", names.contains(method.getName()), false);
            }
        }
    }
}
