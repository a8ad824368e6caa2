import java.io.IOException;
import java.nio.file.Files;
import java.nio.file.Path;
import java.util.ArrayList;
import java.util.List;
import java.util.regex.Matcher;
import java.util.regex.Pattern;

/**
 * No test, but what one of them needs: writes the class anew so that an object's answers from its 513th call on are
 * arbitrary, as the document leaves them free. The tests have to hold with that class as they do with the class itself.
 */
public final class FlashNodesLimited {
    private static final int FACE = 39;
    private static final Pattern CALL = Pattern.compile("    public (int|boolean) \\w+\\(.*\\{");

    private FlashNodesLimited() {
    }

    public static void main(String[] args) throws IOException {
        List<String> made = new ArrayList<>();
        int calls = 0;
        for (String line : Files.readAllLines(Path.of(args[0]))) {
            made.add(line);
            Matcher call = CALL.matcher(line);
            if (line.startsWith("public final class ")) {
                made.add("    private int callsSoFar = 0;");
            } else if (call.matches()) {
                String arbitrary = call.group(1).equals("int") ? "1234567 + callsSoFar" : "callsSoFar % 2 == 0";
                made.add("        if (++callsSoFar > 512) { return " + arbitrary + "; }");
                calls++;
            }
        }
        if (calls != FACE) {
            System.out.println("the face has " + calls + " calls, not " + FACE);
            System.exit(1);
        }
        Files.write(Path.of(args[1]), made);
    }
}
