import java.io.IOException;
import java.io.StringWriter;
import java.lang.reflect.InvocationTargetException;
import java.lang.reflect.Method;
import java.lang.reflect.Modifier;
import java.net.URL;
import java.net.URLClassLoader;
import java.nio.file.Files;
import java.nio.file.Path;
import java.util.List;
import java.util.regex.Matcher;
import java.util.regex.Pattern;
import java.util.stream.Stream;
import javax.tools.JavaCompiler;
import javax.tools.StandardJavaFileManager;
import javax.tools.ToolProvider;

/**
 * README.md says how to use the class: its code is compiled and run, and each answer behind a "// ->" has to come; and
 * it has to name all that a user needs.
 */
public final class FlashNodesReadme {
    private static final Pattern CODE = Pattern.compile("(?ms)^```java\\n(.*?)^```$");
    private static final Pattern DUE = Pattern.compile("(?m)^(x\\..*);\\s*// -> (throws )?(\\S+).*$");
    private static final int FEWEST_ANSWERS = 45;

    /** What the page has to speak of, besides each call of the face. */
    private static final String[] TOPICS = {"new FlashNodes()", "1,000 signs", "kind + 16 * place", "`FlashNodes.NONE` is -1",
        "-2", "`java.util.NoSuchElementException`", "at most 512 calls", "bash .ci/run", "../shared/tests"};

    private static int answers = 0;
    private static int failed = 0;

    private FlashNodesReadme() {
    }

    private static void must(boolean right, String what) {
        if (!right) {
            failed++;
            System.out.println("README.md: " + what);
        }
    }

    /** Called by the code made from the page. */
    public static void due(String call, Object got, String due) {
        answers++;
        must(String.valueOf(got).equals(due), call + " answers " + got + ", told is " + due);
    }

    /** A call with its answer becomes one that sets it against what comes. */
    private static String checked(String code) {
        Matcher m = DUE.matcher(code);
        StringBuilder made = new StringBuilder();
        while (m.find()) {
            String told = "\"" + m.group(1) + "\"";
            String call = "FlashNodesReadme.due(" + told + ", " + m.group(1) + ", \"" + m.group(3) + "\");";
            if (m.group(2) != null) {
                call = "try { " + m.group(1) + "; FlashNodesReadme.due(" + told + ", \"nothing\", \"an exception\"); } catch ("
                    + m.group(3) + " e) { FlashNodesReadme.due(" + told + ", \"it\", \"it\"); }";
            }
            m.appendReplacement(made, Matcher.quoteReplacement(call));
        }
        return m.appendTail(made).toString();
    }

    private static String classOf(String page) {
        StringBuilder members = new StringBuilder();
        StringBuilder body = new StringBuilder();
        Matcher m = CODE.matcher(page);
        while (m.find()) {
            String code = checked(m.group(1));
            must(!code.contains("// ->"), "an answer that is not looked at in " + code);
            if (code.startsWith("static ")) {
                members.append(code);
            } else {
                body.append("{\n").append(code).append("}\n");
            }
        }
        return "import java.util.NoSuchElementException;\npublic final class Page {\n" + members
            + "public static void run() {\n" + body + "}\n}\n";
    }

    private static void compileAndRun(String text, Path dir) throws IOException, ReflectiveOperationException {
        Path source = dir.resolve("Page.java");
        Files.writeString(source, text);
        JavaCompiler compiler = ToolProvider.getSystemJavaCompiler();
        StringWriter said = new StringWriter();
        try (StandardJavaFileManager files = compiler.getStandardFileManager(null, null, null)) {
            List<String> options = List.of("-proc:none", "-d", dir.toString(), "-cp", System.getProperty("java.class.path"));
            if (!compiler.getTask(said, files, null, options, null, files.getJavaFileObjects(source)).call()) {
                must(false, "its code does not compile: " + said);
                return;
            }
        }
        try (URLClassLoader loader = new URLClassLoader(new URL[] {dir.toUri().toURL()})) {
            loader.loadClass("Page").getMethod("run").invoke(null);
        } catch (InvocationTargetException e) {
            must(false, "its code throws " + e.getCause());
        }
    }

    private static void runCode(String page) throws IOException, ReflectiveOperationException {
        Path dir = Files.createTempDirectory("readme");
        try {
            compileAndRun(classOf(page), dir);
        } finally {
            try (Stream<Path> all = Files.list(dir)) {
                for (Path one : all.toList()) {
                    Files.delete(one);
                }
            }
            Files.delete(dir);
        }
        must(answers >= FEWEST_ANSWERS, "just " + answers + " answers are told");
    }

    private static void lookAtWords(String page) throws IOException {
        for (Method m : FlashNodes.class.getDeclaredMethods()) {
            if (Modifier.isPublic(m.getModifiers())) {
                must(page.contains("`" + m.getName() + "("), "it does not say how " + m.getName() + " is called");
            }
        }
        for (String topic : TOPICS) {
            must(page.contains(topic), "it does not speak of " + topic);
        }
        try (Stream<Path> tests = Files.list(Path.of("src/test/java"))) {
            for (Path test : tests.toList()) {
                String name = test.getFileName().toString().replace(".java", "");
                boolean program = Files.readString(test).contains("static void main(");
                must(!program || page.contains(name) || page.contains(".ci/broken") && name.equals("FlashNodesBroken"),
                    "it does not name " + name);
            }
        }
    }

    public static void main(String[] args) throws IOException, ReflectiveOperationException {
        String page = Files.readString(Path.of("README.md"));
        lookAtWords(page);
        runCode(page);
        System.out.println(failed == 0 ? answers + " answers of README.md are as told" : "README.md: " + failed + " wrong");
        if (failed != 0) {
            System.exit(1);
        }
    }
}
