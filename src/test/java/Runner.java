import java.lang.reflect.InvocationTargetException;
import java.lang.reflect.Method;
import java.util.HashMap;
import java.util.Map;

/** Makes the same calls of SpareWell and of the Oracle. */
final class Runner {
    private static final Map<String, Method> WELL = methodsOf(SpareWell.class);
    private static final Map<String, Method> ORACLE = methodsOf(Oracle.class);

    final SpareWell well = new SpareWell();
    private final Oracle oracle = new Oracle();
    private final Check check;
    private final StringBuilder calls = new StringBuilder();

    Runner(Check check) {
        this.check = check;
    }

    private static Map<String, Method> methodsOf(Class<?> type) {
        Map<String, Method> map = new HashMap<>();
        for (Method method : type.getDeclaredMethods()) {
            boolean isPrivate = java.lang.reflect.Modifier.isPrivate(method.getModifiers());
            if (!isPrivate && !method.isSynthetic()) {
                map.put(method.getName(), method);
            }
        }
        return map;
    }

    static Object answer(Map<String, Method> methods, Object object, String name, Object[] args) {
        try {
            Object result = methods.get(name).invoke(object, args);
            return result == null ? "nothing" : result;
        } catch (InvocationTargetException e) {
            return "throws." + e.getCause().getClass().getSimpleName();
        } catch (IllegalAccessException e) {
            throw new IllegalStateException(e);
        }
    }

    /** Calls both, compares, and tells SpareWell's answer. */
    Object call(String name, int... numbers) {
        Object[] args = new Object[numbers.length];
        StringBuilder shown = new StringBuilder(name).append('(');
        for (int i = 0; i < numbers.length; i++) {
            args[i] = numbers[i];
            shown.append(i == 0 ? "" : ", ").append(numbers[i]);
        }
        shown.append(')');
        Object due = answer(ORACLE, oracle, name, args);
        Object got = answer(WELL, well, name, args);
        calls.append(shown).append(" -> ").append(got).append('\n');
        boolean before = check.isAllAsDue();
        check.same(shown.toString(), got, due);
        if (before && !check.isAllAsDue()) {
            System.out.println("the first run that is not as due:\n" + calls);
        }
        return got;
    }

    /** Feeds a text and makes it a land; blanks fill the last feed up. */
    Object land(String text) {
        calls.append("text: ").append(text).append('\n');
        for (int at = 0; at < text.length(); at += 20) {
            int[] words = new int[5];
            for (int i = 0; i < 20; i++) {
                int sign = at + i < text.length() ? text.charAt(at + i) : ' ';
                words[i / 4] = words[i / 4] << 8 | sign & 255;
            }
            call("feed", words);
        }
        Object answer = call("land", text.length());
        call("fault");
        return answer;
    }
}
