import java.io.IOException;
import java.nio.file.Files;
import java.nio.file.Path;
import java.util.regex.Matcher;
import java.util.regex.Pattern;

/**
 * Prints a program, ReadmeRun, of the Java blocks of a README: its calls, in their order and as they
 * stand there, each compared with the answer that stands behind it. A block that begins with "static"
 * holds methods. A call with no answer behind it is an error, so that none goes untested.
 */
final class ReadmeTests {
    private static final Pattern BLOCK = Pattern.compile("(?s)\n```java\n(.*?)\n```\n");
    private static final Pattern CALL = Pattern.compile("(\\S.*); // (throws \\w+|[\\w.-]+)(: .+)?");
    /** What the README must show, as issue 12 asks. */
    private static final String[] DUE = {"sync.feed(", "sync.load(", "sync.cancel(", "sync.push(", "sync.pull(", "sync.undo(", "throws "};

    private final StringBuilder methods = new StringBuilder();
    private final StringBuilder steps = new StringBuilder();

    public static void main(String[] args) throws IOException {
        String text = Files.readString(Path.of(args[0]));
        ReadmeTests readme = new ReadmeTests();
        Matcher block = BLOCK.matcher(text);
        while (block.find()) {
            readme.take(block.group(1));
        }
        System.out.print(readme.program());
    }

    private void take(String block) {
        if (block.startsWith("static ")) {
            methods.append(block).append('\n');
            return;
        }
        for (String line : block.split("\n")) {
            if (line.startsWith("CalendarSync ")) {
                steps.append(line).append('\n');
                continue;
            }
            Matcher call = CALL.matcher(line);
            if (!call.matches()) {
                throw new IllegalStateException("a line of the README without an answer: " + line);
            }
            String quoted = call.group(1).replace("\\", "\\\\").replace("\"", "\\\"");
            steps.append("due(\"").append(quoted).append("\", \"").append(call.group(2)).append("\", () -> ")
                .append(call.group(1)).append(");\n");
        }
    }

    private String program() {
        for (String due : DUE) {
            if (steps.indexOf(due) < 0) {
                throw new IllegalStateException("the README does not show: " + due);
            }
        }
        return "import java.util.function.Supplier;\n"
            + "final class ReadmeRun {\n"
            + "static int passed = 0;\n"
            + "static int failed = 0;\n"
            + "static void due(String call, String due, Supplier<Object> answer) {\n"
            + "String got;\n"
            + "try { got = String.valueOf(answer.get()); }\n"
            + "catch (RuntimeException e) { got = \"throws \" + e.getClass().getSimpleName(); }\n"
            + "if (got.equals(due)) { passed++; return; }\n"
            + "failed++;\n"
            + "System.out.println(\"FAILED \" + call + \": the README names \" + due + \", got \" + got);\n"
            + "}\n"
            + methods
            + "public static void main(String[] args) {\n"
            + steps
            + "System.out.println(passed + \" passed, \" + failed + \" failed\");\n"
            + "System.exit(failed == 0 && passed > 0 ? 0 : 1);\n"
            + "}\n"
            + "}\n";
    }
}
