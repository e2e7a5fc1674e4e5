import java.io.IOException;
import java.io.StringWriter;
import java.lang.reflect.Method;
import java.lang.reflect.Modifier;
import java.net.URL;
import java.net.URLClassLoader;
import java.nio.file.Files;
import java.nio.file.Path;
import java.util.ArrayList;
import java.util.List;
import java.util.regex.Matcher;
import java.util.regex.Pattern;
import javax.tools.JavaCompiler;
import javax.tools.StandardJavaFileManager;
import javax.tools.ToolProvider;

/** README.md's Java compiles, shows each method, and what it tells behind a call is what the call answers. */
public final class ReadmeTests {
    private static final Check check = new Check();
    private static final Pattern BLOCK = Pattern.compile("```java\\n(.*?)```", Pattern.DOTALL);
    private static final Pattern ANSWERED = Pattern.compile("(x\\.\\w+\\(.*\\)); +// (-?\\d+)(: .*)?");

    private final StringBuilder program = new StringBuilder();
    private final List<String> calls = new ArrayList<>();
    private final List<Long> answers = new ArrayList<>();

    public static void main(String[] args) throws Exception {
        new ReadmeTests().look(Files.readString(Path.of("README.md")));
        check.end();
    }

    private static void so(String what, boolean so) {
        check.due(what, so ? 1 : 0, 1);
    }

    private void look(String readme) throws Exception {
        so("README tells how to run the tests", readme.contains("\n    .ci/run\n"));
        program.append("public final class Readme { public static void run(java.util.List<Long> got) {\n");
        Matcher block = BLOCK.matcher(readme);
        while (block.find()) {
            block.group(1).lines().forEach(this::line);
        }
        program.append("}}\n");
        for (Method m : EveryoneWins.class.getDeclaredMethods()) {
            so("README shows " + m.getName(), !Modifier.isPublic(m.getModifiers()) || program.indexOf("x." + m.getName() + "(") >= 0);
        }
        compare(gotOfProgram());
    }

    /** A call that begins a line must tell what it answers; all else stands as it is. */
    private void line(String line) {
        Matcher call = ANSWERED.matcher(line);
        if (call.matches()) {
            program.append("got.add((long) ").append(call.group(1)).append(");\n");
            calls.add(call.group(1));
            answers.add(Long.parseLong(call.group(2)));
        } else {
            so("README tells what is answered: " + line, !line.startsWith("x."));
            program.append(line).append('\n');
        }
    }

    private void compare(List<Long> got) {
        check.due("README: how many answers", got.size(), calls.size());
        for (int i = 0; i < got.size() && i < calls.size(); i++) {
            check.due("README: " + calls.get(i), got.get(i), answers.get(i));
        }
    }

    private List<Long> gotOfProgram() throws Exception {
        Path folder = Files.createTempDirectory("readme");
        try {
            Path file = Files.writeString(folder.resolve("Readme.java"), program);
            StringWriter told = new StringWriter();
            boolean compiled = compiles(file, folder, told);
            so("README compiles: " + told, compiled);
            return compiled ? gotOfClass(folder) : List.of();
        } finally {
            for (String name : List.of("Readme.java", "Readme.class", "")) {
                Files.deleteIfExists(folder.resolve(name));
            }
        }
    }

    private static boolean compiles(Path file, Path folder, StringWriter told) throws IOException {
        JavaCompiler compiler = ToolProvider.getSystemJavaCompiler();
        try (StandardJavaFileManager files = compiler.getStandardFileManager(null, null, null)) {
            List<String> options = List.of("-proc:none", "--release", "17", "-d", folder.toString(),
                "-cp", System.getProperty("java.class.path"));
            return compiler.getTask(told, files, null, options, null, files.getJavaFileObjects(file)).call();
        }
    }

    private static List<Long> gotOfClass(Path folder) throws Exception {
        List<Long> got = new ArrayList<>();
        URL[] places = {folder.toUri().toURL()};
        try (URLClassLoader loader = new URLClassLoader(places, ReadmeTests.class.getClassLoader())) {
            loader.loadClass("Readme").getMethod("run", List.class).invoke(null, got);
        }
        return got;
    }
}
