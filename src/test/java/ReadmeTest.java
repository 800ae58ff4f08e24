import java.lang.reflect.Method;
import java.nio.file.Files;
import java.nio.file.Path;
import java.util.Set;
import java.util.TreeSet;
import java.util.regex.Matcher;
import java.util.regex.Pattern;

/** README.md tells the answers that the class gives, and names only methods that it has. */
public final class ReadmeTest {
    /** A call of the example; its answer stands first in the comment. */
    private static final Pattern CALL = Pattern.compile("w\\.(\\w+)\\(([^)]*)\\); +// (\\d+|[A-Z_]+)\\b.*");

    public static void main(String[] args) throws Exception {
        String page = Files.readString(Path.of("README.md"));
        int start = page.indexOf("```java");
        int end = page.indexOf("```", start + 3);
        answers(page.substring(start, end));
        methods(page.substring(page.indexOf("| For |"), page.indexOf("## Tests")));
        Due.end();
    }

    private static void answers(String example) throws Exception {
        HornRuleWorkbench w = new HornRuleWorkbench();
        int calls = 0;
        for (String line : example.split("\n")) {
            Matcher call = CALL.matcher(line);
            if (call.matches()) {
                calls++;
                Due.due(line, ask(w, call.group(1), call.group(2)), number(call.group(3)));
            }
        }
        Due.due("calls of the example", calls, example.split("\nw\\.").length - 1);
    }

    private static long ask(HornRuleWorkbench w, String name, String arguments) throws Exception {
        for (Method method : HornRuleWorkbench.class.getMethods()) {
            if (method.getName().equals(name)) {
                Object[] values = new Object[method.getParameterCount()];
                String[] texts = arguments.split(", ");
                for (int i = 0; i < values.length; i++) {
                    values[i] = (int) number(texts[i]);
                }
                return ((Number) method.invoke(w, values)).longValue();
            }
        }
        throw new IllegalArgumentException(name);
    }

    private static long number(String text) throws Exception {
        if (text.startsWith("0b")) {
            return Integer.parseInt(text.substring(2), 2);
        }
        if (Character.isLetter(text.charAt(0))) {
            return HornRuleWorkbench.class.getField(text).getLong(null);
        }
        return Long.parseLong(text);
    }

    private static void methods(String table) {
        Set<String> known = new TreeSet<>();
        for (Method method : HornRuleWorkbench.class.getMethods()) {
            known.add(method.getName());
        }
        Matcher name = Pattern.compile("`(\\w+)`").matcher(table);
        while (name.find()) {
            Due.due("README.md names " + name.group(1), known.contains(name.group(1)) ? 1 : 0, 1);
        }
    }
}
