import java.io.ByteArrayOutputStream;
import java.io.IOException;
import java.io.OutputStream;
import java.io.PrintStream;
import java.io.StringWriter;
import java.lang.reflect.Method;
import java.net.URI;
import java.nio.file.Files;
import java.nio.file.Path;
import java.util.ArrayList;
import java.util.Arrays;
import java.util.HashMap;
import java.util.List;
import java.util.Map;
import java.util.TreeSet;
import java.util.concurrent.ExecutorService;
import java.util.concurrent.Executors;
import java.util.concurrent.Future;
import java.util.concurrent.TimeUnit;
import java.util.concurrent.TimeoutException;
import javax.tools.FileObject;
import javax.tools.ForwardingJavaFileManager;
import javax.tools.JavaCompiler;
import javax.tools.JavaFileManager;
import javax.tools.JavaFileObject;
import javax.tools.SimpleJavaFileObject;
import javax.tools.StandardJavaFileManager;
import javax.tools.ToolProvider;

/**
 * No test of the class but one of its tests: breaks the class in each of the ways that src/test/broken.txt tells, and
 * looks whether the tests of the edges named there fail then. Run it by .ci/broken.
 */
public final class FlashNodesBroken {
    private static final String SOURCE = "src/main/java/FlashNodes.java";
    private static final int SECONDS = 60;

    private final JavaCompiler compiler = ToolProvider.getSystemJavaCompiler();
    private final String source;
    private final PrintStream out = System.out;
    private int wrong = 0;

    private FlashNodesBroken(String source) {
        this.source = source;
    }

    /** One way to break the class: some of its lines, and what comes in their place. */
    private static final class Break {
        int line;
        String[] tests;
        final List<String> from = new ArrayList<>();
        final List<String> to = new ArrayList<>();
    }

    private static String trimmed(String text) {
        StringBuilder all = new StringBuilder();
        for (String line : text.split("\n", -1)) {
            all.append(line.trim()).append('\n');
        }
        return all.toString();
    }

    private static List<Break> read(List<String> lines) {
        List<Break> all = new ArrayList<>();
        Break now = null;
        char ahead = ' ';
        for (int i = 0; i < lines.size(); i++) {
            String line = lines.get(i).trim();
            char sign = line.isEmpty() ? '#' : line.charAt(0);
            if (sign == '<' || sign == '>') {
                List<String> texts = sign == '<' ? now.from : now.to;
                String text = line.substring(1).trim() + "\n";
                if (sign == ahead) {
                    int last = texts.size() - 1;
                    texts.set(last, texts.get(last) + text);
                } else {
                    texts.add(text);
                }
            } else if (sign != '#') {
                now = new Break();
                now.line = i + 1;
                now.tests = line.split(" +");
                all.add(now);
            }
            ahead = sign;
        }
        return all;
    }

    private void complain(String what) {
        wrong++;
        out.println(what);
    }

    private String broken(Break b) {
        String text = source;
        if (b.from.size() != b.to.size()) {
            complain("line " + b.line + ": not as many > as <");
            return null;
        }
        for (int i = 0; i < b.from.size(); i++) {
            String from = b.from.get(i);
            int at = text.indexOf("\n" + from);
            if (at < 0 || text.indexOf("\n" + from, at + 1) >= 0) {
                complain("line " + b.line + (at < 0 ? ": no such lines: " : ": more than once: ") + from);
                return null;
            }
            text = text.substring(0, at + 1) + b.to.get(i) + text.substring(at + 1 + from.length());
        }
        return text;
    }

    private static final class Text extends SimpleJavaFileObject {
        private final String text;

        Text(String text) {
            super(URI.create("string:///FlashNodes.java"), Kind.SOURCE);
            this.text = text;
        }

        @Override
        public CharSequence getCharContent(boolean ignore) {
            return text;
        }
    }

    private static final class Code extends SimpleJavaFileObject {
        final ByteArrayOutputStream bytes = new ByteArrayOutputStream();

        Code(String name) {
            super(URI.create("mem:///" + name + ".class"), Kind.CLASS);
        }

        @Override
        public OutputStream openOutputStream() {
            return bytes;
        }
    }

    private static final class Memory extends ForwardingJavaFileManager<StandardJavaFileManager> {
        final Map<String, Code> made = new HashMap<>();

        Memory(StandardJavaFileManager files) {
            super(files);
        }

        @Override
        public JavaFileObject getJavaFileForOutput(JavaFileManager.Location where, String name, JavaFileObject.Kind kind,
            FileObject beside) {
            Code code = new Code(name);
            made.put(name, code);
            return code;
        }
    }

    /** The broken class, and everything that stands beside it in the class path made anew. */
    private static final class Loader extends ClassLoader {
        private final Map<String, Code> made;

        Loader(Map<String, Code> made) {
            super(FlashNodesBroken.class.getClassLoader());
            this.made = made;
        }

        @Override
        protected Class<?> loadClass(String name, boolean resolve) throws ClassNotFoundException {
            if (name.indexOf('.') >= 0) {
                return super.loadClass(name, resolve);
            }
            synchronized (getClassLoadingLock(name)) {
                Class<?> c = findLoadedClass(name);
                if (c == null) {
                    byte[] bytes = bytesOf(name);
                    c = defineClass(name, bytes, 0, bytes.length);
                }
                return c;
            }
        }

        private byte[] bytesOf(String name) throws ClassNotFoundException {
            if (made.containsKey(name)) {
                return made.get(name).bytes.toByteArray();
            }
            try (var in = getParent().getResourceAsStream(name.replace('.', '/') + ".class")) {
                if (in == null) {
                    throw new ClassNotFoundException(name);
                }
                return in.readAllBytes();
            } catch (IOException e) {
                throw new ClassNotFoundException(name);
            }
        }
    }

    private Map<String, Code> compiled(Break b, String text) throws IOException {
        StringWriter said = new StringWriter();
        try (Memory memory = new Memory(compiler.getStandardFileManager(null, null, null))) {
            if (!compiler.getTask(said, memory, null, List.of("-proc:none"), null, List.of(new Text(text))).call()) {
                complain("line " + b.line + ": does not compile: " + said);
                return null;
            }
            return memory.made;
        }
    }

    /** Whether the test holds though the class is broken: then it is no good. */
    private static boolean holds(Map<String, Code> made, String test) throws ReflectiveOperationException {
        Loader loader = new Loader(made);
        Class<?> edge = loader.loadClass("Edge");
        Class<?>[] all = (Class<?>[]) field(loader.loadClass("FlashNodesEdges"), "ALL");
        for (Class<?> c : all) {
            for (Object found : (List<?>) call(edge, "testsOf", c)) {
                if (((Method) found).getName().equals(test)) {
                    call(edge, "run", found);
                    return (Integer) call(edge, "failures") == 0;
                }
            }
        }
        throw new NoSuchMethodException(test);
    }

    private static Object field(Class<?> c, String name) throws ReflectiveOperationException {
        var f = c.getDeclaredField(name);
        f.setAccessible(true);
        return f.get(null);
    }

    private static Object call(Class<?> c, String name, Object... with) throws ReflectiveOperationException {
        for (Method m : c.getDeclaredMethods()) {
            if (m.getName().equals(name) && m.getParameterCount() == with.length) {
                m.setAccessible(true);
                return m.invoke(null, with);
            }
        }
        throw new NoSuchMethodException(name);
    }

    private void tryOne(Break b, TreeSet<String> failing) throws Exception {
        String text = broken(b);
        Map<String, Code> made = text == null ? null : compiled(b, text);
        if (made == null) {
            return;
        }
        for (String test : b.tests) {
            ExecutorService one = Executors.newSingleThreadExecutor(r -> {
                Thread t = new Thread(r);
                t.setDaemon(true);
                return t;
            });
            Future<Boolean> run = one.submit(() -> holds(made, test));
            try {
                if (run.get(SECONDS, TimeUnit.SECONDS)) {
                    complain("line " + b.line + ": " + test + " holds, though it is broken: " + b.to);
                } else {
                    failing.add(test);
                }
            } catch (TimeoutException e) {
                failing.add(test);
            }
            one.shutdownNow();
        }
    }

    public static void main(String[] args) throws Exception {
        FlashNodesBroken all = new FlashNodesBroken("\n" + trimmed(Files.readString(Path.of(SOURCE))));
        List<Break> breaks = read(Files.readAllLines(Path.of("src/test/broken.txt")));
        TreeSet<String> failing = new TreeSet<>();
        // What the tests print when they fail, as they should, is not looked at.
        System.setOut(new PrintStream(OutputStream.nullOutputStream()));
        for (Break b : breaks) {
            try {
                all.tryOne(b, failing);
            } catch (Exception e) {
                all.complain("line " + b.line + ": " + Arrays.toString(b.tests) + " " + e);
            }
        }
        for (Class<?> c : FlashNodesEdges.ALL) {
            for (Method test : Edge.testsOf(c)) {
                if (!failing.contains(test.getName())) {
                    all.complain(test.getName() + " fails in no broken class");
                }
            }
        }
        all.out.println(breaks.size() + " broken classes, " + failing.size() + " tests fail in one of them, " + all.wrong
            + " are wrong");
        System.exit(all.wrong == 0 ? 0 : 1);
    }
}
