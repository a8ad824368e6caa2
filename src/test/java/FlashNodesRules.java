import java.io.IOException;
import java.lang.reflect.Constructor;
import java.lang.reflect.Field;
import java.lang.reflect.Method;
import java.lang.reflect.Modifier;
import java.nio.file.Files;
import java.nio.file.Path;
import java.util.Arrays;
import java.util.List;
import java.util.TreeSet;
import java.util.regex.Matcher;
import java.util.regex.Pattern;

/** What of LANGUAGE.md can be seen from the class's face and from its text. */
public final class FlashNodesRules {
    private static final String FACE = "int feed(long,long,long) int store() int work() int slot(int,int) "
        + "int block(int,int) int file(int,int) int write(int,int,int) int remove(int) boolean open(int) "
        + "boolean close(int) int commit() int collect() boolean cut(int) int mount() int judged(int) "
        + "int says(int,int) boolean may(int,int) int spare() int pick() int gain() int rounds(int) int found() "
        + "boolean agrees() int loses() int wear() int oldest() int hot() int copies(int,int) int chain(int,int) "
        + "int after(int,int,int) int ends() int halves() boolean see(int,int,int,boolean) int cuts() int look() "
        + "int lives(int) int ages(int,int,int) boolean mark(int,boolean) int count(int)";

    private static int failed = 0;

    private static void must(boolean right, String what) {
        if (!right) {
            failed++;
            System.out.println("rule: " + what);
        }
    }

    private static void face() {
        TreeSet<String> due = new TreeSet<>();
        Matcher m = Pattern.compile("(int|boolean) \\w+\\([^)]*\\)").matcher(FACE);
        while (m.find()) {
            due.add(m.group());
        }
        TreeSet<String> names = new TreeSet<>();
        TreeSet<String> got = new TreeSet<>();
        for (Method method : FlashNodes.class.getDeclaredMethods()) {
            if (!Modifier.isPrivate(method.getModifiers())) {
                StringBuilder s = new StringBuilder(method.getReturnType() + " " + method.getName() + "(");
                for (Class<?> type : method.getParameterTypes()) {
                    s.append(s.charAt(s.length() - 1) == '(' ? "" : ",").append(type);
                }
                got.add(s.append(")").toString());
                names.add(method.getName());
                must(Modifier.isPublic(method.getModifiers()), "1: public or private: " + method);
            }
        }
        must(got.equals(due), "1: the face is " + got);
        must(Modifier.isFinal(FlashNodes.class.getModifiers()), "1: final");
        for (Constructor<?> made : FlashNodes.class.getDeclaredConstructors()) {
            must(Modifier.isPublic(made.getModifiers()) && made.getParameterCount() == 0, "1: " + made);
        }
        fieldsAndClasses(names);
    }

    private static void fieldsAndClasses(TreeSet<String> names) {
        for (Field field : FlashNodes.class.getDeclaredFields()) {
            must(Modifier.isPrivate(field.getModifiers()) || field.getName().equals("NONE"), "1: " + field);
        }
        Class<?>[] inside = FlashNodes.class.getDeclaredClasses();
        must(inside.length <= 11, "11: classes");
        for (Class<?> c : inside) {
            must(Modifier.isPrivate(c.getModifiers()) && Modifier.isStatic(c.getModifiers()), "1: " + c);
            int own = 0;
            for (Field field : c.getDeclaredFields()) {
                boolean fixed = Modifier.isStatic(field.getModifiers());
                own += fixed ? 0 : 1;
                must(!fixed || Modifier.isFinal(field.getModifiers()), "5: " + field);
            }
            must(own <= 20, "11: fields of " + c);
            for (Method method : c.getDeclaredMethods()) {
                must(!Modifier.isPrivate(method.getModifiers()) || !names.contains(method.getName()), "1: " + method);
                must(method.getParameterCount() <= 7, "11: " + method);
            }
        }
    }

    private static void text() throws IOException {
        List<String> lines = Files.readAllLines(Path.of("src/main/java/FlashNodes.java"));
        String code = String.join("\n", lines).replaceAll("/\\*\\*[^*]*\\*/", "").replaceAll("//[^\n]*", "");
        for (String word : Arrays.asList("->", "::", "synchronized", "assert ", "finally", "catch", "double", "instanceof",
            "System.out", "package ", "Exact", "extends", "implements", "float", "abstract", "var ")) {
            must(!code.contains(word), "not here: " + word);
        }
        Matcher m = Pattern.compile("import ([^;]*);").matcher(code);
        while (m.find()) {
            must(m.group(1).equals("java.util.NoSuchElementException"), "4: " + m.group(1));
        }
        must(!Pattern.compile("\"\\s*\\+|\\+\\s*\"").matcher(code).find(), "10: texts joined by +");
        must(!Pattern.compile("static (?!final|int \\w+\\(|boolean \\w+\\()").matcher(code).find(), "5: static state");
        int from = -1;
        for (int i = 0; i < lines.size(); i++) {
            if (lines.get(i).matches(" {4,8}(?!private static final class)\\S.*\\) (throws \\w+ )?\\{")) {
                from = i;
            } else if (lines.get(i).matches(" {4,8}\\}") && from >= 0) {
                must(i - from <= 60, "11: a long method at " + from);
                from = -1;
            }
        }
        must(madeInCalls(lines).equals("throw new NoSuchElementException(\"there are not so many\");"),
            "12: made outside of constructors: " + madeInCalls(lines));
    }

    /** Where something is made by a call: but the one exception all stands in constructors and fields. */
    private static String madeInCalls(List<String> lines) {
        StringBuilder all = new StringBuilder();
        boolean inConstructor = false;
        for (String line : lines) {
            if (line.matches(" {4,8}(public )?[A-Z]\\w*\\(.*\\) \\{")) {
                inConstructor = true;
            } else if (line.matches(" {4,8}\\}")) {
                inConstructor = false;
            }
            boolean field = line.matches(" {8}(private )?final .*");
            if (line.contains("new ") && !line.contains("*") && !inConstructor && !field) {
                all.append(line.trim());
            }
        }
        return all.toString();
    }

    public static void main(String[] args) throws IOException {
        face();
        text();
        System.out.println(failed == 0 ? "the rules that can be seen are kept" : failed + " rules are broken");
        if (failed != 0) {
            System.exit(1);
        }
    }
}
