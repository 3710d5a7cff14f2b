import java.io.IOException;
import java.lang.reflect.Method;
import java.lang.reflect.Modifier;
import java.nio.file.Files;
import java.nio.file.Path;
import java.util.regex.Matcher;
import java.util.regex.Pattern;

/** Makes the calls that README.md tells, one after another; what it tells behind them must be the answers. */
public final class ReadmeTest {
    private static final Pattern CALL = Pattern.compile("row\\.(\\w+)\\(([^)]*)\\);\\s+// (-?\\d+|true|false)\\b.*");
    private static final Pattern WRITE = Pattern.compile("write\\(row, \"([^\"]*)\"\\);");
    private static final WardrobeRow ROW = new WardrobeRow();

    public static void main(String[] args) throws Exception {
        int calls = 0;
        for (String line : example()) {
            Matcher call = CALL.matcher(line);
            Matcher write = WRITE.matcher(line);
            if (call.matches()) {
                calls++;
                Check.dueText("README: " + line, answer(call.group(1), call.group(2)), call.group(3));
            } else if (write.matches()) {
                Check.tape(ROW, write.group(1));
            } else {
                Check.dueText("README", line, "WardrobeRow row = new WardrobeRow();");
            }
        }
        Check.due("calls told in README.md", calls > 10, true);
        everyCallIsTold();
        Check.close();
    }

    private static String[] example() throws IOException {
        String text = Files.readString(Path.of("README.md"));
        int from = text.indexOf("WardrobeRow row = new WardrobeRow();");
        return text.substring(from, text.indexOf("```", from)).split("\n");
    }

    private static String answer(String name, String told) throws Exception {
        String[] parts = told.isEmpty() ? new String[0] : told.split(", ");
        for (Method method : WardrobeRow.class.getMethods()) {
            if (method.getName().equals(name) && method.getParameterCount() == parts.length) {
                Object[] numbers = new Object[parts.length];
                for (int i = 0; i < parts.length; i++) {
                    numbers[i] = Integer.valueOf(parts[i]);
                }
                return String.valueOf(method.invoke(ROW, numbers));
            }
        }
        return "no such call";
    }

    private static void everyCallIsTold() throws IOException {
        String text = Files.readString(Path.of("README.md"));
        String table = text.substring(text.indexOf("| calls |"), text.indexOf("## Tests"));
        for (Method method : WardrobeRow.class.getDeclaredMethods()) {
            boolean open = !Modifier.isPrivate(method.getModifiers());
            boolean told = Pattern.compile("\\b" + method.getName() + "\\b").matcher(table).find();
            Check.due(method.getName() + " is in README.md's table", told || !open, true);
        }
    }
}
