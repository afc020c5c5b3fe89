import java.lang.reflect.Method;
import java.lang.reflect.Modifier;
import java.nio.file.Files;
import java.nio.file.Path;
import java.util.Arrays;
import java.util.regex.Matcher;
import java.util.regex.Pattern;

/** README.md: its example is run line by line on one court, and every call of the face is named. */
public final class ReadmeTest {
    private static final Pattern TEXT = Pattern.compile("String text = \"([^\"]*)\";");
    private static final Pattern CALL = Pattern.compile("court\\.(\\w+)\\(([-\\d, ]*)\\);\\s*// (-?\\d+):.*");

    public static void main(String[] args) throws Exception {
        String page = Files.readString(Path.of("README.md"));
        runExample(page);
        namesEveryCall(page);
        Due.close("ReadmeTest");
    }

    private static void runExample(String page) throws Exception {
        CoachCourt court = new CoachCourt();
        int told = 0;
        for (String line : page.split("\n")) {
            Matcher text = TEXT.matcher(line);
            Matcher call = CALL.matcher(line);
            if (text.matches()) {
                Due.feed(court, text.group(1));
            } else if (call.matches()) {
                Due.due("README.md: " + line, answer(court, call.group(1), call.group(2)), Long.parseLong(call.group(3)));
                told++;
            } else {
                Due.due("README.md: a call whose answer is not told: " + line, line.startsWith("court.") ? 1 : 0, 0);
            }
        }
        Due.due("README.md: whether it tells answers", told > 0 ? 1 : 0, 1);
    }

    private static long answer(CoachCourt court, String name, String numbers) throws Exception {
        Object[] given = numbers.isEmpty() ? new Object[0]
            : Arrays.stream(numbers.split(",")).map(n -> Integer.valueOf(n.trim())).toArray();
        Class<?>[] kinds = new Class<?>[given.length];
        Arrays.fill(kinds, int.class);
        return ((Number) CoachCourt.class.getMethod(name, kinds).invoke(court, given)).longValue();
    }

    private static void namesEveryCall(String page) {
        for (Method m : CoachCourt.class.getDeclaredMethods()) {
            if (Modifier.isPublic(m.getModifiers())) {
                Due.due("README.md: whether it names " + m.getName(), page.contains("`" + m.getName() + "`") ? 1 : 0, 1);
            }
        }
    }
}
