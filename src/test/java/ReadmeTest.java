import java.io.File;
import java.io.IOException;
import java.nio.file.Files;
import java.nio.file.Path;
import java.util.HashMap;
import java.util.Map;
import java.util.regex.Matcher;
import java.util.regex.Pattern;

/** The calls that README.md shows answer what it tells, and it tells of every test. Runs in the project's directory. */
public final class ReadmeTest {
    private static final Pattern CALL = Pattern.compile("(?:int (\\w+) = )?swap\\.(\\w+)\\((.*)\\);\\s+// (\\w+)(?:: .*)?");
    private static final int FEWEST_CALLS = 26;

    private final Check check = new Check("README.md");
    private final Map<String, Integer> numbers = new HashMap<>();
    private TongueSwap swap = new TongueSwap();
    private int calls;

    public static void main(String[] args) throws IOException {
        String page = Files.readString(Path.of("README.md"));
        ReadmeTest test = new ReadmeTest();
        test.makeCalls(page);
        test.tellsOfAllTests(page);
        test.check.end();
    }

    private ReadmeTest() {
        numbers.put("NONE", TongueSwap.NONE);
        numbers.put("TongueSwap.NONE", TongueSwap.NONE);
        numbers.put("true", 1);
        numbers.put("false", 0);
    }

    private void makeCalls(String page) {
        boolean isJava = false;
        for (String line : page.split("\n")) {
            if (line.startsWith("```")) {
                isJava = line.equals("```java");
            } else if (isJava && line.equals("TongueSwap swap = new TongueSwap();")) {
                swap = new TongueSwap();
            } else if (isJava && !line.isEmpty()) {
                makeCall(line);
            }
        }
        check.due("enough calls", calls >= FEWEST_CALLS, true);
    }

    private void makeCall(String line) {
        Matcher parts = CALL.matcher(line);
        if (!parts.matches()) {
            check.due("a line that can't be read: " + line, false, true);
            return;
        }
        calls++;
        int[] arguments = argumentsOf(parts.group(3));
        Object got = Check.answer(() -> Caller.call(swap, parts.group(2), arguments));
        String due = parts.group(4);
        check.due(line, got.toString(), due.equals("NONE") ? "-1" : due);
        if (parts.group(1) != null) {
            numbers.put(parts.group(1), got instanceof Integer ? (Integer) got : TongueSwap.NONE);
        }
    }

    private int[] argumentsOf(String text) {
        String[] words = text.isEmpty() ? new String[0] : text.split(", ");
        int[] all = new int[words.length];
        for (int i = 0; i < words.length; i++) {
            all[i] = numberOf(words[i]);
        }
        return all;
    }

    private int numberOf(String word) {
        if (numbers.containsKey(word)) {
            return numbers.get(word);
        }
        return word.startsWith("0b") ? Integer.parseInt(word.substring(2), 2) : Integer.decode(word);
    }

    private void tellsOfAllTests(String page) {
        for (String name : new File("src/test/java").list()) {
            String plain = name.replace(".java", "");
            check.due("tells of " + plain, page.contains("`" + plain), true);
        }
    }
}
