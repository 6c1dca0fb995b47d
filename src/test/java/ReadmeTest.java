import java.io.IOException;
import java.lang.reflect.Method;
import java.nio.file.Files;
import java.nio.file.Path;
import java.util.regex.Matcher;
import java.util.regex.Pattern;

/** The examples of README.md answer what it says. */
public final class ReadmeTest {
    private static final Due D = new Due();
    private static final Pattern NEW = Pattern.compile("FortyBasket x = new FortyBasket\\(\\);");
    private static final Pattern TEXT = Pattern.compile("Due\\.(shop|rule)\\(x, \"([^\"]*)\"\\); *// (-?\\d+).*");
    private static final Pattern CALL = Pattern.compile("x\\.(\\w+)\\(([^)]*)\\); *// (-?\\d+).*");

    private static int call(FortyBasket x, String name, String arguments) throws ReflectiveOperationException {
        String[] parts = arguments.isEmpty() ? new String[0] : arguments.split(", *");
        Class<?>[] types = new Class<?>[parts.length];
        Object[] numbers = new Object[parts.length];
        for (int i = 0; i < parts.length; i++) {
            types[i] = int.class;
            numbers[i] = Long.decode(parts[i]).intValue();
        }
        Method method = FortyBasket.class.getMethod(name, types);
        return (Integer) method.invoke(x, numbers);
    }

    public static void main(String[] args) throws IOException, ReflectiveOperationException {
        FortyBasket x = null;
        boolean inside = false;
        int answers = 0;
        for (String line : Files.readAllLines(Path.of("README.md"))) {
            if (line.startsWith("```")) {
                inside = line.equals("```java");
            } else if (inside) {
                Matcher text = TEXT.matcher(line);
                Matcher call = CALL.matcher(line);
                if (NEW.matcher(line).matches()) {
                    x = new FortyBasket();
                } else if (text.matches()) {
                    boolean shop = text.group(1).equals("shop");
                    int got = shop ? Due.shop(x, text.group(2)) : Due.rule(x, text.group(2));
                    D.is(line, got, Long.parseLong(text.group(3)));
                    answers++;
                } else if (call.matches()) {
                    D.is(line, call(x, call.group(1), call.group(2)), Long.parseLong(call.group(3)));
                    answers++;
                } else {
                    D.holds("a line of an example is understood: " + line, false);
                }
            }
        }
        D.holds("there are examples", answers > 0);
        D.finish();
    }
}
