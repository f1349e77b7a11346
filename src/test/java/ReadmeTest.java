import java.io.IOException;
import java.nio.file.Files;
import java.nio.file.Path;
import java.util.regex.Matcher;
import java.util.regex.Pattern;

/** README.md's rows of Java, called one after the other on one object: each answers what stands behind it. */
public final class ReadmeTest {
    private static final Pattern MADE = Pattern.compile("SleptWitness x = new SleptWitness\\(\\);");
    private static final Pattern TYPED = Pattern.compile(
        "for \\(char b : \"([^\"]*)\"\\.toCharArray\\(\\)\\) x\\.type\\((\\d), b\\);\\s*//.*");
    private static final Pattern ASKED = Pattern.compile("x\\.(\\w+)\\(([-0-9, ]*)\\);\\s*// (-?\\d+): .+");
    private static final int MOST_CALLS = 512;

    private final Due due = new Due();
    private SleptWitness x;
    private int calls;

    public static void main(String[] args) throws IOException {
        ReadmeTest test = new ReadmeTest();
        boolean java = false;
        for (String row : Files.readAllLines(Path.of("README.md"))) {
            if (row.startsWith("```")) {
                java = row.equals("```java");
            } else if (java && !row.isBlank()) {
                test.follow(row);
            }
        }
        test.due.holds("README.md has rows of Java, and no more than an object is good for",
            test.calls > 0 && test.calls <= MOST_CALLS);
        test.due.end("ReadmeTest");
    }

    private void follow(String row) {
        Matcher typed = TYPED.matcher(row);
        Matcher asked = ASKED.matcher(row);
        if (MADE.matcher(row).matches()) {
            x = new SleptWitness();
        } else if (x != null && typed.matches()) {
            Due.type(x, Integer.parseInt(typed.group(2)), typed.group(1));
            calls += typed.group(1).length();
        } else if (x != null && asked.matches()) {
            long want = Long.parseLong(asked.group(3));
            due.is("README.md: " + row, Edges.call(x, asked.group(1), numbers(asked.group(2))), want);
            calls++;
        } else {
            due.holds("README.md: this row can be followed: " + row, false);
        }
    }

    private static int[] numbers(String list) {
        if (list.isBlank()) {
            return new int[0];
        }
        String[] parts = list.split(", ");
        int[] all = new int[parts.length];
        for (int k = 0; k < parts.length; k++) {
            all[k] = Integer.parseInt(parts[k]);
        }
        return all;
    }
}
