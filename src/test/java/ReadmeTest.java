import java.lang.reflect.Method;
import java.nio.file.Files;
import java.nio.file.Path;
import java.util.Map;
import java.util.regex.Matcher;
import java.util.regex.Pattern;

/** Does every call of README.md, from the project's root: it must answer what is written beside it. */
public final class ReadmeTest {
    private static final String MADE = "BallotDesk desk = new BallotDesk();";
    private static final Pattern CALL = Pattern.compile("desk\\.(\\w+)\\((.*)\\); +// ([\\w-]+)(:.*)?");
    private static final Map<String, Integer> NAMES = Map.of("REFUSED", -1, "FULL", -2, "NONE", -3);

    public static void main(String[] args) throws Exception {
        BallotDesk desk = new BallotDesk();
        boolean inCode = false;
        int calls = 0;
        int wrong = 0;
        for (String line : Files.readAllLines(Path.of("README.md"))) {
            if (line.startsWith("```")) {
                inCode = line.equals("```java");
            } else if (inCode && line.equals(MADE)) {
                desk = new BallotDesk();
            } else if (inCode) {
                calls++;
                wrong += answersAsWritten(desk, line) ? 0 : 1;
            }
        }
        if (calls == 0) wrong++;
        System.out.println(calls + " calls of README.md, " + wrong + " wrong");
        if (wrong != 0) System.exit(1);
    }

    private static boolean answersAsWritten(BallotDesk desk, String line) throws Exception {
        Matcher call = CALL.matcher(line);
        if (!call.matches()) {
            System.out.println("not a call with its answer: " + line);
            return false;
        }
        Object got = answer(desk, call.group(1), call.group(2).split(", "));
        String due = call.group(3);
        if (got.toString().equals(due) || got.equals(NAMES.get(due))) return true;
        System.out.println(line + ": answered " + got);
        return false;
    }

    private static Object answer(BallotDesk desk, String name, String[] words) throws Exception {
        for (Method method : BallotDesk.class.getMethods()) {
            if (!method.getName().equals(name)) continue;
            Object[] numbers = new Object[words.length];
            for (int at = 0; at < words.length; at++) {
                boolean yesOrNo = method.getParameterTypes()[at] == boolean.class;
                numbers[at] = yesOrNo ? (Object) Boolean.valueOf(words[at]) : (Object) Integer.valueOf(words[at]);
            }
            return method.invoke(desk, numbers);
        }
        return "no such method";
    }
}
