import java.lang.reflect.Method;
import java.lang.reflect.Modifier;

/** Every call of at most three numbers, with each of these numbers in each place, held against the Oracle. */
public final class ArgumentsTest {
    private static final int[] NUMBERS = {Integer.MIN_VALUE, -2, -1, 0, 1, 2, 3, 4, 5, 6, 7, 8, 11, 12, 13, 14, 16, 17,
        23, 24, 25, 31, 32, 60, 61, Integer.MAX_VALUE};

    public static void main(String[] args) {
        Check check = new Check("ArgumentsTest");
        for (Method method : SpareWell.class.getDeclaredMethods()) {
            boolean isFace = Modifier.isPublic(method.getModifiers());
            if (isFace && method.getParameterCount() <= 3) {
                callAll(new Runner(check), method);
                Runner empty = new Runner(check);
                empty.land("");
                callAll(empty, method);
                callAll(busy(check), method);
            }
        }
        check.end();
    }

    /** Somebody is gone, a hero, has learnt, has moved; something is seen, kept, and on the tape. */
    private static Runner busy(Check check) {
        Runner runner = new Runner(check);
        runner.land(Told.FIVE);
        runner.call("go", 2);
        runner.call("go", 4);
        runner.call("months", 11);
        runner.call("back", 4);
        runner.call("learn", 1, 0, 0);
        runner.call("move", 3, 2);
        runner.call("see", 0, 3);
        runner.call("see", 1, 2);
        runner.call("image");
        runner.call("feed", 0x68657231, 0x3b202020, 0x20202020, 0x20202020, 0x20202020);
        return runner;
    }

    private static void callAll(Runner runner, Method method) {
        int[] args = new int[method.getParameterCount()];
        fill(runner, method.getName(), args, 0);
        for (int what = 0; what <= 16; what++) {
            runner.call("count", what);
        }
    }

    private static void fill(Runner runner, String name, int[] args, int at) {
        if (at == args.length) {
            runner.call(name, args);
            return;
        }
        for (int number : NUMBERS) {
            args[at] = number;
            fill(runner, name, args, at + 1);
        }
    }
}
