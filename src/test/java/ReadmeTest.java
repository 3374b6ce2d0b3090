import java.io.IOException;
import java.lang.reflect.Method;
import java.nio.file.Files;
import java.nio.file.Path;
import java.util.Arrays;
import java.util.regex.Matcher;
import java.util.regex.Pattern;

/** README.md's example, call by call: what it says behind '//' up to a ':' is what is answered. */
public final class ReadmeTest {
    private static final Pattern CALL = Pattern.compile("t\\.(\\w+)\\(([^)]*)\\);\\s*// ([^:]*)(:.*)?");
    private static final int LEAST_CALLS = 10;

    private static Object answer(TraceLine t, String name, String inBrackets) throws ReflectiveOperationException {
        String[] words = inBrackets.isBlank() ? new String[0] : inBrackets.split(",");
        Class<?>[] types = new Class<?>[words.length];
        Arrays.fill(types, int.class);
        Object[] values = new Object[words.length];
        for (int k = 0; k < words.length; k++) {
            values[k] = Integer.valueOf(words[k].trim());
        }
        Method m = TraceLine.class.getMethod(name, types);
        return m.invoke(t, values);
    }

    public static void main(String[] args) throws IOException, ReflectiveOperationException {
        TraceLine t = new TraceLine();
        int calls = 0;
        int wrong = 0;
        for (String text : Files.readAllLines(Path.of("README.md"))) {
            Matcher call = CALL.matcher(text);
            if (call.matches()) {
                calls++;
                String got = String.valueOf(answer(t, call.group(1), call.group(2)));
                if (!got.equals(call.group(3).trim())) {
                    wrong++;
                    System.out.println(text + " answered " + got);
                }
            } else if (text.startsWith("t.")) {
                wrong++;
                System.out.println("no call with an answer: " + text);
            }
        }
        // An example that is not found must not pass for one that holds.
        if (calls < LEAST_CALLS) {
            wrong++;
            System.out.println("only " + calls + " calls found in README.md");
        }
        System.out.println(wrong == 0 ? "the example holds" : wrong + " faults in the example");
        if (wrong != 0) {
            System.exit(1);
        }
    }
}
