import java.lang.reflect.Method;
import java.nio.file.Files;
import java.nio.file.Path;
import java.util.regex.Matcher;
import java.util.regex.Pattern;

/** The run of calls that README.md tells, call by call, with the answers that stand there. */
public final class ReadmeTest {
    private static final Pattern CALL =
            Pattern.compile("(?m)^    x\\.(\\w+)\\(([^)]*)\\); +// (-?\\d+|true)(?:[ :,]|$)");

    private ReadmeTest() {
    }

    public static void main(String[] args) throws Exception {
        String readme = Files.readString(Path.of("README.md"));
        CelSheet x = new CelSheet();
        Matcher call = CALL.matcher(readme);
        int calls = 0;
        while (call.find()) {
            Due.due("README: " + call.group(), answer(x, call.group(1), call.group(2)), number(call.group(3)));
            calls++;
        }
        long lines = readme.lines().filter(line -> line.startsWith("    x.")).count();
        Due.due("calls that README tells with an answer", calls, lines);
        Due.due("calls that README tells", calls > 30, true);
        Due.end("ReadmeTest");
    }

    private static int answer(CelSheet x, String name, String told) throws Exception {
        String[] words = told.isEmpty() ? new String[0] : told.split(", *");
        Object[] arguments = new Object[words.length];
        for (int i = 0; i < words.length; i++) {
            arguments[i] = Integer.decode(words[i]);
        }
        for (Method m : CelSheet.class.getMethods()) {
            if (m.getName().equals(name) && m.getParameterCount() == words.length) {
                return number(m.invoke(x, arguments).toString());
            }
        }
        Due.due("a call " + name + " of " + words.length, 0, 1);
        return CelSheet.NOTHING;
    }

    private static int number(String answer) {
        return answer.equals("true") ? 1 : answer.equals("false") ? 0 : Integer.parseInt(answer);
    }
}
