import java.util.Random;

/** Texts of lands, drawn. */
final class Texts {
    private static final String[] VALUES = {"strength", "skills", "gone", "home", "month", "hero", "town"};

    private Texts() {
    }

    /** A land without a fault, of at most 700 bytes. */
    static String land(Random random, int people) {
        int towns = 1 + random.nextInt(4);
        int skills = 1 + random.nextInt(8);
        StringBuilder text = new StringBuilder();
        for (int i = 0; i < people; i++) {
            text.append(person(random, towns, skills));
        }
        int works = random.nextInt(3) == 0 ? random.nextInt(15) : random.nextInt(2 + people / 2);
        for (int i = 0; i < works; i++) {
            text.append(work(random, towns, skills));
        }
        boolean[][] bound = new boolean[12][12];
        int bonds = people < 2 || random.nextInt(3) == 0 ? 0 : random.nextInt(9);
        for (int i = 0; i < bonds; i++) {
            int a = random.nextInt(people);
            int b = random.nextInt(people);
            if (a != b && !bound[a][b]) {
                bound[a][b] = true;
                bound[b][a] = true;
                text.append("bond ").append(a).append(' ').append(b).append(';');
            }
        }
        if (random.nextBoolean()) {
            text.append("hero ").append(random.nextInt(random.nextBoolean() ? 4 : 25)).append(';');
        }
        if (random.nextInt(3) != 0) {
            String law = "law " + expr(random, 3) + ";";
            if (text.length() + law.length() <= 700) {
                text.append(law);
            }
        }
        return text.length() > 700 ? land(random, people) : text.toString();
    }

    private static String person(Random random, int towns, int skills) {
        StringBuilder text = new StringBuilder("one ");
        text.append(random.nextInt(towns)).append(' ').append(random.nextInt(10));
        int bits = 0;
        int many = 1 + random.nextInt(random.nextInt(4) + 1);
        for (int i = 0; i < many; i++) {
            int skill = random.nextInt(skills);
            if ((bits & 1 << skill) == 0) {
                bits |= 1 << skill;
                text.append(' ').append(skill);
            }
        }
        return text.append(';').toString();
    }

    private static String work(Random random, int towns, int skills) {
        int most = random.nextInt(4) == 0 ? 4 : 1;
        int from = random.nextInt(12);
        int to = random.nextInt(3) == 0 ? random.nextInt(12) : (from + random.nextInt(5)) % 12;
        return "work " + random.nextInt(towns) + " " + random.nextInt(skills) + " " + from + " " + to + " "
                + (1 + random.nextInt(most)) + ";";
    }

    /** Laws that hold often enough for somebody to go. */
    static String expr(Random random, int depth) {
        int kind = random.nextInt(depth > 0 ? 9 : 2);
        switch (kind) {
            case 0: return VALUES[random.nextInt(VALUES.length)];
            case 1: return String.valueOf(random.nextInt(random.nextInt(6) == 0 ? 10000 : 10));
            case 2: return expr(random, depth - 1) + " or " + expr(random, depth - 1);
            case 3: return expr(random, depth - 1) + " and " + expr(random, depth - 1);
            case 4: return "not (" + expr(random, depth - 1) + ")";
            case 5: return "(" + expr(random, depth - 1) + ")<(" + expr(random, depth - 1) + ")";
            case 6: return "(" + expr(random, depth - 1) + ")=" + "(" + expr(random, depth - 1) + ")";
            case 7: return "(" + expr(random, depth - 1) + ")" + "+-*/".charAt(random.nextInt(4)) + "("
                    + expr(random, depth - 1) + ")";
            default: return VALUES[random.nextInt(VALUES.length)] + "+-*/<=".charAt(random.nextInt(6))
                    + VALUES[random.nextInt(VALUES.length)];
        }
    }
}
