import java.io.IOException;
import java.lang.reflect.InvocationTargetException;
import java.lang.reflect.Method;
import java.lang.reflect.Modifier;
import java.nio.file.Files;
import java.nio.file.Path;
import java.util.regex.Matcher;
import java.util.regex.Pattern;

/** README.md's land and its calls, with the answers that it tells behind them. */
public final class ReadmeTest {
    private static final Pattern TEXT = Pattern.compile("```text\n(.*?)```", Pattern.DOTALL);
    private static final Pattern CALL = Pattern.compile("(?m)^well\\.(\\w+)\\(([^)]*)\\);\\s*// (\\S+)$");

    private ReadmeTest() {
    }

    public static void main(String[] args) throws IOException, IllegalAccessException {
        Check check = new Check("ReadmeTest");
        String page = Files.readString(Path.of("README.md"));
        Matcher text = TEXT.matcher(page);
        check.same("README.md has a land", text.find(), true);
        SpareWell well = Told.land(text.group(1));
        int calls = 0;
        Matcher call = CALL.matcher(page);
        while (call.find()) {
            String shown = call.group(1) + "(" + call.group(2) + ")";
            check.same(shown, answerOf(well, call.group(1), call.group(2)), call.group(3));
            calls++;
        }
        check.same("README.md has calls with their answers", calls > 0, true);
        for (Method method : SpareWell.class.getDeclaredMethods()) {
            if (Modifier.isPublic(method.getModifiers())) {
                String name = method.getName();
                check.same("README.md names " + name, page.contains("`" + name + "("), true);
            }
        }
        check.end();
    }

    private static Object answerOf(SpareWell well, String name, String list) throws IllegalAccessException {
        String[] numbers = list.isEmpty() ? new String[0] : list.split(", ");
        Object[] arguments = new Object[numbers.length];
        for (int i = 0; i < numbers.length; i++) {
            arguments[i] = Integer.valueOf(numbers[i]);
        }
        for (Method method : SpareWell.class.getDeclaredMethods()) {
            if (Modifier.isPublic(method.getModifiers()) && method.getName().equals(name)) {
                try {
                    return method.invoke(well, arguments);
                } catch (InvocationTargetException e) {
                    return e.getCause().getClass().getSimpleName();
                }
            }
        }
        return "no such call";
    }
}
