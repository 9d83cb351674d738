import java.util.concurrent.Callable;

/** What hand-written tests share. */
final class Told {
    /** The document tests' own land: five people in two towns. */
    static final String FIVE = "one 0 5 0 1;one 0 3 1;one 0 9 2;one 1 4 0;one 1 7 0 3;"
            + "work 0 0 0 11 1;work 0 1 3 5 1;work 1 0 10 2 1;bond 2 3;hero 2;law not strength<4;";

    private Told() {
    }

    static void feed(SpareWell well, String text) {
        for (int at = 0; at < text.length(); at += 20) {
            int[] words = new int[5];
            for (int i = 0; i < 20; i++) {
                int sign = at + i < text.length() ? text.charAt(at + i) : ' ';
                words[i / 4] = words[i / 4] << 8 | sign & 255;
            }
            well.feed(words[0], words[1], words[2], words[3], words[4]);
        }
    }

    static int tell(SpareWell well, String text) {
        feed(well, text);
        return well.land(text.length());
    }

    static SpareWell land(String text) {
        SpareWell well = new SpareWell();
        int fault = tell(well, text);
        if (fault != 0) {
            throw new IllegalStateException("fault " + fault + " at " + well.fault() + " in " + text);
        }
        return well;
    }

    /** The simple name of what a call throws, or its answer. */
    static String outcome(Callable<?> call) {
        try {
            return String.valueOf(call.call());
        } catch (Exception e) {
            return e.getClass().getSimpleName();
        }
    }
}
