import java.io.IOException;
import java.lang.reflect.InvocationTargetException;
import java.lang.reflect.Method;
import java.nio.file.Files;
import java.nio.file.Path;
import java.util.ArrayList;
import java.util.List;
import java.util.Set;
import java.util.TreeSet;
import java.util.regex.Matcher;
import java.util.regex.Pattern;
import java.util.stream.Collectors;
import java.util.stream.Stream;

/** What README.md shows: its calls answer as it says, and its commands are those that .ci/run runs. */
public final class ReadmeTest {
    private static final Path PAGE = Path.of("README.md");
    private static final Path OWN = Path.of("src/test/java/ReadmeTest.java");
    private static final Path SHARED = Path.of("../shared/tests");
    private static final String SHARED_TEST = "ToeplitzLabRuns";
    private static final Pattern FENCED = Pattern.compile("(?ms)^```(\\w+)\n(.*?)^```$");
    private static final Pattern CALL = Pattern.compile("lab\\.(\\w+)\\(([^()]*)\\); +// (\\S.*)");
    private static final Pattern LOADING = Pattern.compile("load\\(lab, \"([^\"]*)\"\\); +// (\\S.*)");
    /** An object is used for so many calls. */
    private static final int MOST_CALLS = 512;

    private static ToeplitzLab lab;
    private static int calls;

    public static void main(String[] args) throws IOException, InterruptedException {
        String page = Files.readString(PAGE);
        calls(blocks(page, "java"));
        commands(blocks(page, "sh"));
        named(page);
        Check.finish();
    }

    private static List<String> blocks(String page, String sort) {
        List<String> found = new ArrayList<>();
        Matcher m = FENCED.matcher(page);
        while (m.find()) {
            if (m.group(1).equals(sort)) {
                found.add(m.group(2));
            }
        }
        return found;
    }

    // ---- the calls

    private static void calls(List<String> blocks) throws IOException {
        String own = Files.readString(OWN).replaceAll("(?m)^ {4}", "");
        Set<String> shown = new TreeSet<>();
        int helpers = 0;
        for (String block : blocks) {
            if (block.contains("static ")) {
                helpers++;
                Check.same("README.md's helper is the one of this test", true, own.contains(block));
            } else {
                block.lines().forEach(line -> line(line, shown));
            }
        }
        Check.same("blocks with the helper", 1, helpers);
        Check.same("calls of one object, more than " + MOST_CALLS, false, calls > MOST_CALLS);
        Set<String> face = new TreeSet<>();
        for (Method method : ToeplitzLab.class.getDeclaredMethods()) {
            if (java.lang.reflect.Modifier.isPublic(method.getModifiers())) {
                face.add(method.getName());
            }
        }
        Check.same("the methods that README.md shows", face.toString(), shown.toString());
    }

    private static void line(String line, Set<String> shown) {
        if (line.isBlank() || line.startsWith("//")) {
            return;
        }
        Matcher loading = LOADING.matcher(line);
        Matcher call = CALL.matcher(line);
        if (line.equals("ToeplitzLab lab = new ToeplitzLab();")) {
            lab = new ToeplitzLab();
            calls = 0;
        } else if (loading.matches()) {
            String text = loading.group(1);
            calls += text.length() / 20 + 2;
            answers(line, loading.group(2), () -> load(lab, text));
        } else if (call.matches()) {
            calls++;
            shown.add(call.group(1));
            answers(line, call.group(3), () -> make(call.group(1), call.group(2)));
        } else {
            Check.same("README.md's line is a call with its answer: " + line, true, false);
        }
    }

    private static void answers(String line, String due, Check.Call call) {
        String got;
        try {
            got = String.valueOf(call.answer());
        } catch (RuntimeException e) {
            got = "throws " + e.getClass().getSimpleName();
        }
        String told = due.equals("NONE") ? String.valueOf(ToeplitzLab.NONE) : due;
        Check.same("README.md: " + line, told, got);
    }

    private static Object make(String name, String arguments) {
        String[] told = arguments.isEmpty() ? new String[0] : arguments.split(", ");
        for (Method method : ToeplitzLab.class.getMethods()) {
            if (method.getName().equals(name) && method.getParameterCount() == told.length) {
                return invoke(method, told);
            }
        }
        return "no such method";
    }

    private static Object invoke(Method method, String[] told) {
        Object[] arguments = new Object[told.length];
        for (int k = 0; k < told.length; k++) {
            boolean truth = method.getParameterTypes()[k] == boolean.class;
            arguments[k] = truth ? (Object) Boolean.valueOf(told[k]) : (Object) Integer.decode(told[k]);
        }
        try {
            return method.invoke(lab, arguments);
        } catch (InvocationTargetException e) {
            throw (RuntimeException) e.getCause();
        } catch (IllegalAccessException e) {
            throw new AssertionError(e);
        }
    }

    /** Appends a text, padded with blanks, and loads it. */
    static int load(ToeplitzLab lab, String text) {
        String padded = text + " ".repeat(19);
        for (int at = 0; at + 20 <= padded.length(); at += 20) {
            lab.append(word(padded, at), word(padded, at + 4), word(padded, at + 8), word(padded, at + 12),
                    word(padded, at + 16));
        }
        return lab.load(text.length());
    }

    /** Four bytes of a text, the most significant first. */
    static int word(String text, int at) {
        return text.charAt(at) << 24 | text.charAt(at + 1) << 16 | text.charAt(at + 2) << 8 | text.charAt(at + 3);
    }

    // ---- the commands

    /** The first command is .ci/run itself; the others are those that it runs. */
    private static void commands(List<String> blocks) throws IOException, InterruptedException {
        List<String> told = blocks.stream().flatMap(String::lines).collect(Collectors.toList());
        Check.same("README.md's first command", ".ci/run", told.isEmpty() ? null : told.remove(0));
        List<String> pattern = told.stream().filter(c -> c.contains(SHARED_TEST)).collect(Collectors.toList());
        told.removeAll(pattern);
        // Other tests may stand there when this is read: each of them is run by the same two commands.
        for (String name : sharedTests()) {
            pattern.forEach(command -> told.add(command.replace(SHARED_TEST, name)));
        }
        Check.same("README.md's commands", new TreeSet<>(listed()).toString(), new TreeSet<>(told).toString());
    }

    private static List<String> sharedTests() throws IOException {
        try (Stream<Path> files = Files.list(SHARED)) {
            return files.map(file -> file.getFileName().toString()).filter(name -> name.endsWith(".java"))
                    .map(name -> name.substring(0, name.length() - ".java".length())).sorted()
                    .collect(Collectors.toList());
        }
    }

    private static List<String> listed() throws IOException, InterruptedException {
        Process run = new ProcessBuilder("sh", ".ci/run", "list").redirectErrorStream(true).start();
        String all = new String(run.getInputStream().readAllBytes());
        Check.same(".ci/run list ends with", 0, run.waitFor());
        return all.lines().collect(Collectors.toList());
    }

    /** Every test of the project has a word that says what it is for, not just its command. */
    private static void named(String page) throws IOException {
        try (Stream<Path> files = Files.list(OWN.getParent())) {
            files.map(file -> file.getFileName().toString()).filter(name -> name.endsWith("Test.java")).forEach(
                    name -> Check.same(name + " is explained", true, page.contains("`" + name.replace(".java", "`"))));
        }
    }
}
