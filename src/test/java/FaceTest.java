import java.io.IOException;
import java.lang.reflect.Constructor;
import java.lang.reflect.Field;
import java.lang.reflect.Method;
import java.lang.reflect.Modifier;
import java.nio.file.Files;
import java.nio.file.Path;
import java.util.TreeSet;
import java.util.regex.Matcher;
import java.util.regex.Pattern;

/** The class has the face that the document prints, and nothing else that can be seen. */
final class FaceTest {
    private FaceTest() {
    }

    public static void main(String[] args) throws IOException {
        String doc = Files.readString(Path.of(System.getProperty("mailoffice.doc")));
        Expect.equal("public face", documented(doc).toString(), visible().toString());
        Expect.equal("final", true, Modifier.isFinal(MailOffice.class.getModifiers()));
        Expect.equal("public constructors", 1, MailOffice.class.getConstructors().length);
        for (Constructor<?> made : MailOffice.class.getDeclaredConstructors()) {
            Expect.equal("parameters of the constructor", 0, made.getParameterCount());
        }
        for (Field field : MailOffice.class.getDeclaredFields()) {
            Expect.equal("private " + field.getName(), true, isPrivate(field.getModifiers()));
        }
        privateNamesDiffer();
        Expect.finish("FaceTest");
    }

    private static boolean isPrivate(int modifiers) {
        return Modifier.isPrivate(modifiers);
    }

    private static void privateNamesDiffer() {
        for (Method own : MailOffice.class.getDeclaredMethods()) {
            for (Method other : MailOffice.class.getDeclaredMethods()) {
                boolean clash = isPrivate(own.getModifiers()) && !isPrivate(other.getModifiers())
                    && own.getName().equals(other.getName());
                Expect.equal("a private method named " + own.getName(), false, clash);
            }
        }
    }

    private static TreeSet<String> documented(String doc) {
        String face = doc.substring(doc.indexOf("public final class"), doc.indexOf("## Terms"));
        TreeSet<String> found = new TreeSet<>();
        Matcher method = Pattern.compile(
            "public (\\w+) (\\w+)\\(([^)]*)\\)(?: throws ([\\w, ]+))?;").matcher(face);
        while (method.find()) {
            TreeSet<String> thrown = new TreeSet<>();
            if (method.group(4) != null) {
                thrown.addAll(java.util.List.of(method.group(4).split(", ")));
            }
            String types = method.group(3).replaceAll("(\\w+) \\w+", "$1");
            found.add(method.group(1) + " " + method.group(2) + "(" + types + ") " + thrown);
        }
        return found;
    }

    private static TreeSet<String> visible() {
        TreeSet<String> found = new TreeSet<>();
        for (Method method : MailOffice.class.getDeclaredMethods()) {
            if (isPrivate(method.getModifiers()) || method.isSynthetic()) {
                continue;
            }
            TreeSet<String> thrown = new TreeSet<>();
            for (Class<?> type : method.getExceptionTypes()) {
                thrown.add(type.getSimpleName());
            }
            java.util.StringJoiner types = new java.util.StringJoiner(", ");
            for (Class<?> type : method.getParameterTypes()) {
                types.add(type.getSimpleName());
            }
            found.add(method.getReturnType().getSimpleName() + " " + method.getName()
                + "(" + types + ") " + thrown);
        }
        return found;
    }
}
