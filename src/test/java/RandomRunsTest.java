import java.util.Random;

/** Runs of calls drawn by seeds, each answer held against the Oracle's. */
public final class RandomRunsTest {
    private static final int RUNS = Integer.getInteger("runs", 150);
    private static final int CALLS = 330;

    public static void main(String[] args) {
        Check check = new Check("RandomRunsTest");
        int from = Integer.getInteger("from", 0);
        for (int run = from; run < from + RUNS && check.isAllAsDue(); run++) {
            oneRun(check, new Random(run));
        }
        check.end();
    }

    private static void oneRun(Check check, Random random) {
        Runner runner = new Runner(check);
        int people = 0;
        for (int i = 0; i < CALLS; i++) {
            if (i == 0 || random.nextInt(120) == 0) {
                people = random.nextInt(4) == 0 ? random.nextInt(13) : 3 + random.nextInt(5);
                runner.land(Texts.land(random, people));
                people = runner.well.count(0);
            }
            draw(runner, random, people);
        }
    }

    /** Mostly numbers that are good, at times the ones beside them. */
    private static int in(Random random, int least, int most) {
        if (random.nextInt(25) == 0) {
            int[] odd = {least - 1, most + 1, Integer.MIN_VALUE, Integer.MAX_VALUE, -2};
            return odd[random.nextInt(odd.length)];
        }
        return most < least ? least : least + random.nextInt(most - least + 1);
    }

    private static void draw(Runner runner, Random random, int people) {
        int who = in(random, 0, people - 1);
        int skill = in(random, 0, 7);
        int set = random.nextInt(30) == 0 ? random.nextInt() : random.nextInt(1 << people);
        switch (random.nextInt(46)) {
            case 0 -> runner.call("count", in(random, 0, 16));
            case 1 -> runner.call("one", who, in(random, 0, 5));
            case 2 -> runner.call("work", in(random, 0, runner.well.count(1) - 1), in(random, 0, 5));
            case 3 -> runner.call("spared");
            case 4, 5, 6 -> runner.call("go", who);
            case 7 -> runner.call("back", who);
            case 8, 9 -> runner.call("learn", who, skill, in(random, 0, people - 1));
            case 10 -> runner.call("move", who, in(random, 0, 3));
            case 11 -> runner.call("months", in(random, 1, random.nextBoolean() ? 2 : 24));
            case 12 -> runner.call("undo");
            case 13 -> runner.call("can", set, in(random, 0, 11));
            case 14 -> runner.call("most", in(random, 0, 2));
            case 15, 16 -> runner.call("strongest", in(random, 1, 12), in(random, 0, random.nextBoolean() ? 3 : 12),
                    in(random, 0, 1));
            case 17 -> runner.call("never");
            case 18 -> runner.call("last", in(random, 0, random.nextBoolean() ? 3 : 12));
            case 19, 20 -> orders(runner, random, set);
            case 21, 22 -> runner.call("wells", random.nextInt(4) == 0 ? -1 : who);
            case 23 -> runner.call("piece", in(random, 0, 3), skill);
            case 24 -> runner.call("taught", who, skill);
            case 25 -> runner.call("trade");
            case 26, 27 -> runner.call("see", who, skill);
            case 28 -> runner.call(random.nextInt(4) == 0 ? "forget" : "needed");
            case 29, 30 -> runner.call("secret", in(random, 0, 1));
            case 31 -> runner.call("game", in(random, 0, 3), in(random, 0, 3), in(random, 0, 1));
            case 32 -> runner.call("year", random.nextInt(), in(random, 0, 60), in(random, 0, 2));
            case 33 -> runner.call("needed");
            case 34 -> runner.call("free");
            case 35 -> runner.call("ways");
            case 36 -> runner.call("doer", in(random, 0, runner.well.count(8) - 1));
            case 37 -> runner.call("recalled", in(random, 0, 11));
            case 38 -> runner.call("allMonths", in(random, 0, 24));
            case 39 -> runner.call("school");
            case 40 -> runner.call("clash", in(random, 0, 1));
            case 41 -> runner.call("lacking", in(random, 0, 11));
            case 42 -> runner.call("worth", who);
            case 43 -> runner.call("lack", in(random, 0, 3), skill, in(random, 0, 11));
            case 44 -> runner.call(random.nextInt(3) == 0 ? "image" : "spared");
            default -> runner.call(random.nextInt(3) == 0 ? "restore" : "spared");
        }
    }

    /** The oracle tries every order, so mostly few are asked for. */
    private static void orders(Runner runner, Random random, int set) {
        int fewer = set;
        while (set >= 0 && Integer.bitCount(fewer) > 5) {
            fewer &= fewer - 1;
        }
        runner.call("orders", random.nextInt(5) == 0 ? fewer : fewer & ~runner.well.count(5));
    }
}
