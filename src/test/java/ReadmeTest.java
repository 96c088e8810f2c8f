import java.io.IOException;
import java.lang.reflect.Method;
import java.nio.file.Files;
import java.nio.file.Path;
import java.util.HashMap;
import java.util.Map;
import java.util.regex.Matcher;
import java.util.regex.Pattern;

/** The examples of README.md, call by call: where a comment begins with a number, that is the answer that is due. */
public final class ReadmeTest extends Checks {
    private static final Pattern EXAMPLE = Pattern.compile("(?s)```java\n(.*?)```");
    private static final Pattern CALL = Pattern.compile("(?:int (\\w+) = )?g\\.(\\w+)\\(([^()]*)\\)");
    private static final Pattern DUE = Pattern.compile("(-?\\d+):.*");
    private static final String MADE = "GrammarLines g = new GrammarLines()";

    private static GrammarLines g;
    private static Map<String, Integer> variables;

    public static void main(String[] args) throws IOException {
        String text = Files.readString(Path.of(System.getProperty("project.root", "."), "README.md"));
        int examples = 0;
        int answers = 0;
        Matcher example = EXAMPLE.matcher(text);
        while (example.find()) {
            examples++;
            promise = "README.md, example " + examples;
            variables = new HashMap<>();
            for (String row : example.group(1).split("\n")) {
                answers += run(row);
            }
        }
        promise = "README.md";
        due("examples that are found", examples, 2);
        due("answers that are told there", answers, 19);
        end();
    }

    /** Makes the calls of a row; answers 1 if the row tells an answer, else 0. */
    private static int run(String row) {
        String[] parts = row.split("//", 2);
        int last = 0;
        for (String statement : parts[0].split(";")) {
            if (!statement.isBlank()) {
                last = call(statement.strip());
            }
        }
        Matcher told = DUE.matcher(parts.length < 2 ? "" : parts[1].strip());
        if (!told.matches()) {
            return 0;
        }
        due(parts[0].strip(), last, Integer.parseInt(told.group(1)));
        return 1;
    }

    private static int call(String statement) {
        if (statement.equals(MADE)) {
            g = new GrammarLines();
            return 0;
        }
        Matcher call = CALL.matcher(statement);
        if (!call.matches()) {
            throw new IllegalStateException("no call: " + statement);
        }
        int answer = answerOf(call.group(2), call.group(3).isEmpty() ? new String[0] : call.group(3).split(", "));
        if (call.group(1) != null) {
            variables.put(call.group(1), answer);
        }
        boolean refused = answer <= UNKNOWN;
        due(statement + " is refused", refused ? 1 : 0, 0);
        return answer;
    }

    private static int answerOf(String name, String[] given) {
        Object[] values = new Object[given.length];
        for (int i = 0; i < given.length; i++) {
            values[i] = valueOf(given[i]);
        }
        for (Method method : GrammarLines.class.getMethods()) {
            if (method.getName().equals(name) && method.getParameterCount() == given.length) {
                try {
                    return (Integer) method.invoke(g, values);
                } catch (ReflectiveOperationException e) {
                    throw new IllegalStateException(name, e);
                }
            }
        }
        throw new IllegalStateException("no such call: " + name);
    }

    private static Object valueOf(String given) {
        if (given.equals("true") || given.equals("false")) {
            return Boolean.valueOf(given);
        }
        return variables.containsKey(given) ? variables.get(given) : Integer.valueOf(given);
    }
}
