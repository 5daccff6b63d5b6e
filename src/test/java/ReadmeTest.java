import java.io.IOException;
import java.lang.reflect.InvocationTargetException;
import java.lang.reflect.Method;
import java.nio.file.Files;
import java.nio.file.Path;
import java.util.regex.Matcher;
import java.util.regex.Pattern;

/** Makes the calls of README.md's example: each one must answer what the remark behind it begins with. */
public final class ReadmeTest {
    private static final Pattern EXAMPLE = Pattern.compile("(?s)```java\n(.*?)```");
    private static final Pattern MAKING = Pattern.compile("EdgeCampaign x = new EdgeCampaign\\((-?\\d+)\\);.*");
    private static final Pattern CALL = Pattern.compile("x\\.(\\w+)\\((.*?)\\); +// (true|false|-?\\d+): .*");

    public static void main(String[] args) throws IOException {
        Matcher example = EXAMPLE.matcher(Files.readString(Path.of("README.md")));
        Expect.same("README.md has an example", example.find(), true);
        EdgeCampaign x = null;
        for (String line : example.group(1).split("\n")) {
            Matcher making = MAKING.matcher(line);
            if (making.matches()) {
                x = new EdgeCampaign(Integer.parseInt(making.group(1)));
            } else {
                makeCall(x, line);
            }
        }
        Expect.done();
    }

    private static void makeCall(EdgeCampaign x, String line) {
        Matcher call = CALL.matcher(line);
        if (call.matches()) {
            Expect.sameText(line, answer(x, call.group(1), call.group(2)), call.group(3));
        } else {
            Expect.same(line + " is a call with its answer", false, true);
        }
    }

    private static String answer(EdgeCampaign x, String name, String arguments) {
        String[] written = arguments.isEmpty() ? new String[0] : arguments.split(", ");
        Object[] values = new Object[written.length];
        for (int i = 0; i < written.length; i++) {
            boolean isNumber = written[i].matches("-?\\d+");
            values[i] = isNumber ? (Object) Integer.valueOf(written[i]) : Boolean.valueOf(written[i]);
        }
        try {
            for (Method method : EdgeCampaign.class.getMethods()) {
                if (method.getName().equals(name)) {
                    return String.valueOf(method.invoke(x, values));
                }
            }
            return "there is no such method";
        } catch (IllegalAccessException | InvocationTargetException | IllegalArgumentException thrown) {
            return thrown.toString();
        }
    }
}
