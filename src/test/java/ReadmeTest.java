import java.io.IOException;
import java.lang.reflect.InvocationTargetException;
import java.lang.reflect.Method;
import java.nio.file.Files;
import java.nio.file.Path;
import java.util.Arrays;
import java.util.HashMap;
import java.util.List;
import java.util.Map;
import java.util.TreeSet;
import java.util.regex.Matcher;
import java.util.regex.Pattern;

/** README.md: makes the calls of its examples, and looks at the answers that stand behind them. */
public final class ReadmeTest {
    private static final Path README = Path.of("README.md");
    private static final String MAKES = "ArbitrationFees accounts = new ArbitrationFees();";
    private static final Pattern CALL = Pattern.compile(
            "(?:(int|long|double) (\\w+) = )?accounts\\.(\\w+)\\(([^)]*)\\); +// (throws )?(\\w+).*");
    private static final Pattern TYPES = Pattern.compile("for \\(char sign : \"([^\"]+)\"\\.toCharArray\\(\\)\\) \\{");

    private final Map<String, Integer> variables = new HashMap<>();
    private ArbitrationFees accounts = null;
    private int calls = 0;

    public static void main(String[] args) throws IOException, IllegalAccessException {
        List<String> lines = Files.readAllLines(README);
        ReadmeTest readme = new ReadmeTest();
        boolean isExample = false;
        for (int i = 0; i < lines.size(); i++) {
            boolean isFence = lines.get(i).startsWith("```");
            if (isExample && !isFence) {
                i += readme.tryLine(lines.get(i));
            }
            isExample = isFence ? lines.get(i).equals("```java") : isExample;
        }
        Check.due("there are examples", readme.calls > 20 ? 1 : 0, 1);
        tellsEachCall(String.join("\n", lines));
        tellsHowToTest(String.join("\n", lines));
        Check.end();
    }

    /** How many lines more belong to this one. */
    private int tryLine(String line) throws IllegalAccessException {
        Matcher types = TYPES.matcher(line);
        Matcher call = CALL.matcher(line);
        if (line.equals(MAKES)) {
            accounts = new ArbitrationFees();
        } else if (types.matches()) {
            Check.type(accounts, types.group(1));
            return 2;
        } else if (call.matches()) {
            tryCall(line, call);
        } else {
            Check.fail("README.md has a line that is not understood: " + line);
        }
        return 0;
    }

    private void tryCall(String line, Matcher call) throws IllegalAccessException {
        calls++;
        Method method = methodOf(call.group(3));
        String got;
        try {
            Object answer = method.invoke(accounts, argumentsOf(call.group(4), method.getParameterTypes()));
            got = String.valueOf(answer);
            if (call.group(1) != null) {
                Check.dueText(line, method.getReturnType().getName(), call.group(1));
                variables.put(call.group(2), ((Number) answer).intValue());
            }
        } catch (InvocationTargetException e) {
            got = "throws " + e.getCause().getClass().getSimpleName();
        }
        Check.dueText(line, got, (call.group(5) == null ? "" : call.group(5)) + call.group(6));
    }

    private Object[] argumentsOf(String text, Class<?>[] types) {
        String[] words = text.isEmpty() ? new String[0] : text.split(", ");
        Object[] values = new Object[words.length];
        for (int i = 0; i < words.length; i++) {
            if (types[i] == boolean.class) {
                values[i] = Boolean.valueOf(words[i]);
            } else {
                values[i] = variables.containsKey(words[i]) ? variables.get(words[i]) : Integer.valueOf(words[i]);
            }
        }
        return values;
    }

    private static Method methodOf(String name) {
        return Arrays.stream(ArbitrationFees.class.getDeclaredMethods())
                .filter(method -> method.getName().equals(name)).findAny().orElseThrow();
    }

    private static void tellsEachCall(String readme) {
        TreeSet<String> missing = new TreeSet<>();
        for (Method method : ArbitrationFees.class.getMethods()) {
            if (method.getDeclaringClass() == ArbitrationFees.class && !readme.contains("`" + method.getName() + "`")) {
                missing.add(method.getName());
            }
        }
        Check.dueText("calls of which README.md does not tell", missing.toString(), "[]");
    }

    private static void tellsHowToTest(String readme) {
        Check.due("README.md tells how to run the tests", readme.contains("\n```\n.ci/run\n```\n") ? 1 : 0, 1);
    }
}
