import java.lang.reflect.InvocationTargetException;
import java.lang.reflect.Method;
import java.nio.file.Files;
import java.nio.file.Path;
import java.util.regex.Matcher;
import java.util.regex.Pattern;

/** Every call on the page README.md answers what the page says of it. */
public final class ReadmeTest {
    private static final Checks CHECKS = new Checks("ReadmeTest");
    private static final Pattern MADE = Pattern.compile("OldLift lift = new OldLift\\(\\);");
    private static final Pattern FED = Pattern.compile("Texts\\.feed\\(lift, \"([^\"]*)\"\\); *(?://.*)?");
    private static final Pattern CALLED = Pattern.compile("lift\\.(\\w+)\\(([^()]*)\\); *(?://.*)?");
    private static final Pattern ANSWER = Pattern.compile(".*// (-?\\w+)(?::.*)?");

    private OldLift lift;

    private ReadmeTest() { }

    public static void main(String[] args) throws Exception {
        ReadmeTest page = new ReadmeTest();
        boolean inJava = false;
        for (String line : Files.readAllLines(Path.of("README.md"))) {
            if (line.startsWith("```")) {
                inJava = line.equals("```java");
            } else if (inJava && !line.isEmpty()) {
                page.play(line);
            }
        }
        CHECKS.end();
    }

    private void play(String line) throws IllegalAccessException {
        Matcher fed = FED.matcher(line);
        Matcher called = CALLED.matcher(line);
        if (MADE.matcher(line).matches()) {
            lift = new OldLift();
        } else if (lift != null && fed.matches()) {
            hold(line, String.valueOf(Texts.feed(lift, fed.group(1))), false);
        } else if (lift != null && called.matches()) {
            hold(line, answer(called.group(1), called.group(2)), true);
        } else {
            CHECKS.yes("a line that can be played: " + line, false);
        }
    }

    private static void hold(String line, String got, boolean mustTell) {
        Matcher told = ANSWER.matcher(line);
        if (told.matches()) {
            CHECKS.same(line, got, told.group(1));
        } else {
            CHECKS.no("an answer is missing: " + line, mustTell);
        }
    }

    private String answer(String name, String list) throws IllegalAccessException {
        String[] words = list.isEmpty() ? new String[0] : list.split(", *");
        for (Method method : OldLift.class.getDeclaredMethods()) {
            if (method.getName().equals(name) && method.getParameterCount() == words.length) {
                try {
                    return String.valueOf(method.invoke(lift, arguments(method, words)));
                } catch (InvocationTargetException e) {
                    return e.getCause().toString();
                }
            }
        }
        return "no such call";
    }

    private static Object[] arguments(Method method, String[] words) {
        Object[] arguments = new Object[words.length];
        for (int i = 0; i < words.length; i++) {
            String digits = words[i].equals("OldLift.NONE") ? "-1" : words[i].replaceFirst("L$", "");
            long number = Long.decode(digits);
            arguments[i] = method.getParameterTypes()[i] == long.class ? (Object) number : (Object) (int) number;
        }
        return arguments;
    }
}
