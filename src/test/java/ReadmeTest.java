import java.io.IOException;
import java.lang.reflect.Method;
import java.nio.file.Files;
import java.nio.file.Path;
import java.util.HashMap;
import java.util.List;
import java.util.Map;
import java.util.regex.Matcher;
import java.util.regex.Pattern;

/** Plays the example of README.md line by line: its calls answer what its remarks say. */
public final class ReadmeTest {
    private static final Pattern CALL = Pattern.compile(
        "(?:int (\\w+) = )?net\\.(\\w+)\\((.*?)\\);\\s*(?://\\s*(-?\\d+|true|false)\\b.*)?(?://.*)?");
    private static final String BEGINNING = "SignalNetwork net = new SignalNetwork();";

    private final SignalNetwork net = new SignalNetwork();
    private final Map<String, Object> values = new HashMap<>();
    private int checked = 0;
    private int wrong = 0;

    public static void main(String[] args) throws IOException, ReflectiveOperationException {
        ReadmeTest test = new ReadmeTest();
        boolean isExample = false;
        for (String line : Files.readAllLines(Path.of("README.md"))) {
            if (line.startsWith("```")) {
                isExample = line.equals("```java");
            } else if (isExample && !line.isBlank() && !line.equals(BEGINNING)) {
                test.play(line);
            }
        }
        System.out.println("readme: " + test.checked + " answers looked at, " + test.wrong + " wrong");
        if (test.wrong != 0 || test.checked == 0) {
            System.exit(1);
        }
    }

    private ReadmeTest() {
        values.put("SignalNetwork.NONE", SignalNetwork.NONE);
        values.put("true", true);
        values.put("false", false);
    }

    private void play(String line) throws ReflectiveOperationException {
        Matcher call = CALL.matcher(line);
        if (!call.matches()) {
            wrong++;
            System.out.println("this is no call: " + line);
            return;
        }
        Object answer = answerTo(call.group(2), List.of(call.group(3).split(", ")));
        if (call.group(1) != null) {
            values.put(call.group(1), answer);
        }
        if (call.group(4) != null) {
            checked++;
            if (!call.group(4).equals(String.valueOf(answer))) {
                wrong++;
                System.out.println(line.strip() + " -- but it answered " + answer);
            }
        }
    }

    private Object answerTo(String name, List<String> arguments) throws ReflectiveOperationException {
        for (Method method : SignalNetwork.class.getMethods()) {
            if (method.getName().equals(name) && method.getParameterCount() == arguments.size()) {
                return method.invoke(net, arguments.stream().map(this::valueOf).toArray());
            }
        }
        return "nothing: there is no such method";
    }

    private Object valueOf(String argument) {
        Object value = values.get(argument);
        return value != null ? value : Integer.valueOf(argument);
    }
}
