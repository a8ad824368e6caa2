import java.io.IOException;
import java.lang.reflect.Method;
import java.nio.file.Files;
import java.nio.file.Path;
import java.util.regex.Matcher;
import java.util.regex.Pattern;

/**
 * Runs the tests of the edges: each sentence of the document that names a boundary case has a test of its own, whose
 * remark names the promise or the term and quotes the sentence. That each remark does so, with the document's own
 * words, is looked at, too. With names behind it, just the tests so named are run.
 */
public final class FlashNodesEdges {
    static final Class<?>[] ALL = {EdgesOfTexts.class, EdgesOfNodes.class, EdgesOfActs.class, EdgesOfAnswers.class};
    private static final Pattern HEAD = Pattern.compile("(Term [A-Z]+|Promise \\d+|What it is|Not promised): \"");
    private static final Pattern QUOTE = Pattern.compile("\"([^\"]*)\"");

    private FlashNodesEdges() {
    }

    private static String words(String text) {
        return text.replaceAll("\\s+", " ").trim();
    }

    /** The remark right above a test, without its stars; "" if there is none. */
    private static String remarkOf(String source, Method test) {
        int at = source.indexOf("static void " + test.getName() + "()");
        int end = at < 0 ? -1 : source.lastIndexOf("*/", at);
        int begin = end < 0 ? -1 : source.lastIndexOf("/**", end);
        if (begin < 0 || !source.substring(end + 2, at).trim().isEmpty()) {
            return "";
        }
        return words(source.substring(begin + 3, end).replaceAll("\n\\s*\\*", " "));
    }

    private static void lookAtRemarks(Class<?> c, String document) throws IOException {
        String source = Files.readString(Path.of("src/test/java/" + c.getSimpleName() + ".java"));
        for (Method test : Edge.testsOf(c)) {
            String remark = remarkOf(source, test);
            Edge.is(test.getName() + " has a remark that names and quotes", HEAD.matcher(remark).lookingAt(), true);
            Matcher quote = QUOTE.matcher(remark);
            while (quote.find()) {
                Edge.is("\"" + quote.group(1) + "\" stands in the document", document.contains(words(quote.group(1))), true);
            }
        }
    }

    private static boolean isNamed(String[] names, Method test) {
        for (String name : names) {
            if (name.equals(test.getName())) {
                return true;
            }
        }
        return names.length == 0;
    }

    public static void main(String[] names) throws IOException {
        int tests = 0;
        for (Class<?> c : ALL) {
            for (Method test : Edge.testsOf(c)) {
                if (isNamed(names, test)) {
                    Edge.run(test);
                    tests++;
                }
            }
        }
        if (names.length == 0) {
            String document = words(Files.readString(Path.of("../shared/DOC.md")));
            for (Class<?> c : ALL) {
                lookAtRemarks(c, document);
            }
        }
        System.out.println(tests + " tests of edges: " + Edge.passes() + " answers are as due, " + Edge.failures()
            + " are not");
        if (Edge.failures() != 0 || tests == 0) {
            System.exit(1);
        }
    }
}
