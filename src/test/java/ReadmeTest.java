import java.nio.file.Files;
import java.nio.file.Path;
import java.util.ArrayList;
import java.util.List;
import java.util.regex.Matcher;
import java.util.regex.Pattern;

/** What the README shows of the class's use is so: its helper is the tests' one, its answers are due. */
public final class ReadmeTest {
    private static final Path README = Path.of("README.md");
    private static final Path HELPER = Path.of("src/test/java/Calls.java");
    private static final Pattern READS = Pattern.compile("read\\(x, \"([^\"]*)\"\\);\\s+// (-?\\d+).*");
    private static final Pattern CALLS = Pattern.compile("x\\.(\\w+)\\((.*?)\\);\\s+// (-?\\d+).*");
    private static final String NEW = "TwoWells x = new TwoWells();";
    private static final int FEWEST_STEPS = 20;

    private static int wrong = 0;

    public static void main(String[] args) throws Exception {
        List<List<String>> blocks = blocks(Files.readAllLines(README));
        if (blocks.size() == 2) {
            lookAtHelper(blocks.get(0));
            runExample(blocks.get(1));
        } else {
            tell("there are " + blocks.size() + " blocks of Java, due are the helper and the example");
        }
        wrong += Calls.wrong;
        System.out.println(wrong == 0 ? "what the README shows is so"
                : wrong + " things in the README are not so");
        if (wrong != 0) {
            System.exit(1);
        }
    }

    private static void tell(String what) {
        wrong++;
        System.out.println("README.md: " + what);
    }

    private static List<List<String>> blocks(List<String> lines) {
        List<List<String>> all = new ArrayList<>();
        List<String> block = null;
        for (String line : lines) {
            if (line.equals("```java")) {
                block = new ArrayList<>();
                all.add(block);
            } else if (line.equals("```")) {
                block = null;
            } else if (block != null && !line.isBlank()) {
                block.add(line.trim());
            }
        }
        return all;
    }

    private static void lookAtHelper(List<String> block) throws Exception {
        StringBuilder source = new StringBuilder("\n");
        for (String line : Files.readAllLines(HELPER)) {
            source.append(line.isBlank() ? "" : line.trim() + "\n");
        }
        if (!source.toString().contains("\n" + String.join("\n", block) + "\n")) {
            tell("the helper is another one than that in " + HELPER);
        }
    }

    private static void runExample(List<String> block) {
        List<String> steps = new ArrayList<>();
        for (String line : block) {
            Matcher reads = READS.matcher(line);
            Matcher calls = CALLS.matcher(line);
            if (reads.matches()) {
                steps.add("read " + reads.group(1) + " = " + reads.group(2));
            } else if (calls.matches()) {
                String values = calls.group(2).replace(", ", " ");
                steps.add((calls.group(1) + " " + values).trim() + " = " + calls.group(3));
            } else if (!line.equals(NEW)) {
                tell("neither a call with its answer nor the new object: " + line);
            }
        }
        if (steps.size() < FEWEST_STEPS) {
            tell("the example has " + steps.size() + " calls");
        }
        Calls.name = "README.md";
        Calls.run("", steps.toArray(new String[0]));
    }
}
