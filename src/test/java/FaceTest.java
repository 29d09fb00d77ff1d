import java.io.IOException;
import java.lang.reflect.Constructor;
import java.lang.reflect.Field;
import java.lang.reflect.Method;
import java.lang.reflect.Modifier;
import java.nio.charset.StandardCharsets;
import java.nio.file.Files;
import java.nio.file.Path;
import java.util.Arrays;
import java.util.TreeSet;
import java.util.regex.Matcher;
import java.util.regex.Pattern;

/** The document's face, each signature of it and nothing more, and those rules of LANGUAGE.md that show in the text. */
public final class FaceTest {
    private static final Path DOCUMENT = Path.of("../shared/DOC.md");
    private static final Pattern HEAD = Pattern.compile("^( {4}| {8})(?!class|for|if|while)[a-z].*\\w\\(.*$");
    private static final Path SOURCE = Path.of("src/main/java/ToeplitzLab.java");

    public static void main(String[] args) throws IOException {
        signatures();
        members();
        words();
        lengths();
        Check.finish();
    }

    private static void signatures() throws IOException {
        String text = Files.readString(DOCUMENT);
        String face = text.substring(text.indexOf("```java"), text.indexOf("## Description"));
        TreeSet<String> due = new TreeSet<>();
        Matcher m = Pattern.compile("public (\\w+) (\\w+)\\(([^)]*)\\)( throws ([^;]*))?;").matcher(face);
        while (m.find()) {
            String parameters = m.group(3).replaceAll("(\\w+) \\w+", "$1");
            due.add(m.group(1) + " " + m.group(2) + "(" + parameters + ") throws "
                    + (m.group(5) == null ? "" : m.group(5)));
        }
        TreeSet<String> got = new TreeSet<>();
        for (Method method : ToeplitzLab.class.getDeclaredMethods()) {
            if (!Modifier.isPrivate(method.getModifiers())) {
                got.add(method.getReturnType() + " " + method.getName() + "(" + names(method.getParameterTypes())
                        + ") throws " + names(method.getExceptionTypes()));
                Check.same(method.getName() + " is public alone", Modifier.PUBLIC, method.getModifiers());
            }
        }
        Check.same("the methods", String.join("\n", due), String.join("\n", got));
        Check.same("their number", 58, got.size());
    }

    private static String names(Class<?>[] types) {
        StringBuilder all = new StringBuilder();
        for (Class<?> type : types) {
            all.append(all.length() == 0 ? "" : ", ").append(type.getSimpleName());
        }
        return all.toString();
    }

    private static void members() {
        Class<?> face = ToeplitzLab.class;
        Check.same("the class", Modifier.PUBLIC | Modifier.FINAL, face.getModifiers());
        Constructor<?>[] constructors = face.getDeclaredConstructors();
        Check.same("constructors", 1, constructors.length);
        Check.same("its modifiers", Modifier.PUBLIC, constructors[0].getModifiers());
        TreeSet<String> open = new TreeSet<>();
        for (Field field : face.getDeclaredFields()) {
            if (!Modifier.isPrivate(field.getModifiers())) {
                open.add(field.getName());
            }
            if (Modifier.isStatic(field.getModifiers())) {
                Check.same(field.getName() + " is final", true, Modifier.isFinal(field.getModifiers()));
            }
        }
        Check.same("open fields", "[NONE]", open.toString());
        for (Class<?> inside : face.getDeclaredClasses()) {
            Check.same(inside.getName() + " is static", true, Modifier.isStatic(inside.getModifiers()));
            Check.same(inside.getName() + " is not open", false, Modifier.isPublic(inside.getModifiers()));
            ownNames(inside);
        }
        Check.same("few classes", true, face.getDeclaredClasses().length <= 12);
        for (Method method : face.getDeclaredMethods()) {
            Check.same("few parameters", true, method.getParameterCount() <= 7);
        }
    }

    /** No method inside bears the name of one of the face. */
    private static void ownNames(Class<?> inside) {
        for (Method method : inside.getDeclaredMethods()) {
            boolean taken = Arrays.stream(ToeplitzLab.class.getMethods())
                    .anyMatch(open -> open.getName().equals(method.getName()));
            Check.same(inside.getName() + "." + method.getName() + " is a name of the face", false, taken);
        }
    }

    private static void words() throws IOException {
        String source = Files.readString(SOURCE, StandardCharsets.US_ASCII);
        for (String word : new String[] {"->", "::", "package ", "catch", "finally", "synchronized", "assert ",
            "instanceof", "System.out", "addExact", "multiplyExact", "Random", "Thread", "static {", "var ", "hashCode",
            "getMessage"}) {
            Check.same("the text has " + word, false, source.contains(word));
        }
        Matcher imports = Pattern.compile("(?m)^import (.*);$").matcher(source);
        while (imports.find()) {
            Check.same("an import", "java.util.Arrays", imports.group(1));
        }
    }

    /** A method begins with a line that ends with a brace, and ends with a brace as far to the right as it began. */
    private static void lengths() throws IOException {
        String[] lines = Files.readString(SOURCE).split("\n");
        for (int k = 0; k < lines.length; k++) {
            Matcher head = HEAD.matcher(lines[k]);
            if (head.matches() && !lines[k].contains("class ") && !lines[k].endsWith(";")) {
                int end = k;
                while (end < lines.length && !lines[end].equals(head.group(1) + "}")) {
                    end++;
                }
                Check.same("a method of more than 60 lines at line " + (k + 1), true, end - k <= 60);
            }
        }
    }
}
