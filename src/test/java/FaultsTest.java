import java.util.Random;

/** Texts and their faults: written out by hand, then drawn and held against the Oracle. */
public final class FaultsTest {
    private static final Check CHECK = new Check("FaultsTest");
    private static final String P = "one 0 1 0;";

    private static void due(String text, int fault, int place) {
        SpareWell well = new SpareWell();
        CHECK.same("land of '" + text + "'", Told.tell(well, text), fault);
        CHECK.same("place in '" + text + "'", well.fault(), place);
        CHECK.same("tape behind '" + text + "'", well.count(11), 0);
        CHECK.same("status of '" + text + "'", well.count(12), fault == 0 ? 0 : 1);
    }

    private static void good(String text) {
        due(text, 0, -1);
    }

    public static void main(String[] args) {
        tokens();
        misplaced();
        tooMuch();
        unknownAndTwice();
        laws();
        aFaultChangesNothing();
        drawn();
        CHECK.end();
    }

    private static void tokens() {
        good("");
        good(" \n ");
        good("one0 5 0 1;work0 0 0 0 1;hero3;law1;");
        good("\none\n0\n5\n0\n;\n");
        good("one 0003 0009 0007 0;");
        good("law(1)+(2);");
        due("oneone 0 1 0;", 1, 0);
        due("One 0 1 0;", 1, 0);
        due("one\t0 1 0;", 1, 3);
        due("one 0 1 0\r;", 1, 9);
        due("one 0 1 0;" + (char) 200, 1, 10);
        due("one 0 1 0;" + (char) 0, 1, 10);
        due("one 0 1 0;#", 1, 10);
        due("law 1 & 2;", 1, 6);
        due("law 1 > 2;", 1, 6);
    }

    private static void misplaced() {
        due("one", 1, 3);
        due("one   ", 1, 6);
        due("one 0", 1, 5);
        due("one 0 1 0", 1, 9);
        due("one 0 1 0 1 2  ", 1, 15);
        due("one ;", 1, 4);
        due("one 0 1;", 1, 7);
        due("one 0 1 0 one", 1, 10);
        due("0;", 1, 0);
        due(";", 1, 0);
        due("one 0 1 0;;", 1, 10);
        due("strength;", 1, 0);
        due("not;", 1, 0);
        due("12345;", 1, 0);
        due("work 0 0 0 0;", 1, 12);
        due("work 0 0 0 0 1 1;", 1, 15);
        due("work 0 0 0 0 1 12345;", 1, 15);
        due(P + P + "bond 0;", 1, 26);
        due(P + P + "bond 0 1 1;", 1, 29);
        due("hero;", 1, 4);
        due("hero 1 1;", 1, 7);
        due("hero law;", 1, 5);
        due("hero (1);", 1, 5);
        due("law;", 1, 3);
        due("law", 1, 3);
    }

    private static void tooMuch() {
        due("one 4 1 0;", 2, 4);
        due("one 0 10 0;", 2, 6);
        due("one 0 1 8;", 2, 8);
        due("one 0 1 0 8;", 2, 10);
        due("one 0 1 0 00000;", 2, 10);
        due("one 00000 1 0;", 2, 4);
        due("work 4 0 0 0 1;", 2, 5);
        due("work 0 8 0 0 1;", 2, 7);
        due("work 0 0 12 0 1;", 2, 9);
        due("work 0 0 0 12 1;", 2, 11);
        due("work 0 0 0 0 0;", 2, 13);
        due("work 0 0 0 0 5;", 2, 13);
        good("work 3 7 11 11 4;");
        good("work 3 7 11 0 1;");
        good("hero 0;");
        good("hero 24;");
        due("hero 25;", 2, 5);
        due(P + "bond 12345 0;", 2, 15);
        due(P + "bond 0 12345;", 2, 17);
        good(P.repeat(12));
        due(P.repeat(12) + "one;", 2, 120);
        good("work 0 0 0 0 1;".repeat(14));
        due("work 0 0 0 0 1;".repeat(14) + "work", 2, 210);
        String bonds = "bond 0 1;bond 0 2;bond 0 3;bond 0 4;bond 1 2;bond 1 3;bond 1 4;bond 2 3;";
        good(P.repeat(5) + bonds);
        due(P.repeat(5) + bonds + "bond 9 9;", 2, 122);
        good("law 9999;");
        due("law 10000;", 2, 4);
        due("law 1+00000;", 2, 6);
        due("law 1 00000;", 1, 6);
    }

    private static void unknownAndTwice() {
        due("bond 0 1;", 3, 5);
        due(P + "bond 1 0;", 3, 15);
        due(P + "bond 0 1;", 3, 17);
        due(P + "bond 0 9999;", 3, 17);
        due(P + "bond 0 1;" + P, 3, 17);
        due(P + "bond 0 0;", 4, 17);
        due(P + P + "bond 0 1;bond 0 1;", 4, 36);
        due(P + P + "bond 0 1;bond 1 0;", 4, 36);
        good(P + P + "bond 1 0;");
        due("one 0 1 2 2;", 4, 10);
        due("one 0 1 0 1 2 3 4 5 6 7 3;", 4, 24);
        good("one 0 1 7 6 5 4 3 2 1 0;");
        due("hero 1;hero 99;", 5, 7);
        due("law 1;law;", 5, 6);
        due("hero 1;law 1;hero", 5, 13);
    }

    private static void laws() {
        good("law strength+skills*gone/home-month=hero<1;".replace("<1", ""));
        good("law not not not not not not town;");
        due("law not not not not not not not 1;", 2, 28);
        good("law not not not (not not not not 1) and not not not not not not 1;");
        due("law not;", 1, 7);
        due("law 1+not 1;", 3, 6);
        due("law and;", 3, 4);
        due("law 1 and;", 1, 9);
        due("law 1 and or 1;", 3, 10);
        due("law 1 wife;", 1, 6);
        due("law 1 not 1;", 1, 6);
        due("law 1 strength;", 1, 6);
        due("law wife;", 3, 4);
        due("law one;", 3, 4);
        due("law 1<2<3;", 1, 7);
        due("law 1=2<3;", 1, 7);
        good("law (1=2)<3;");
        due("law 1<;", 1, 6);
        due("law 1+;", 1, 6);
        due("law -1;", 1, 4);
        due("law ();", 1, 5);
        due("law (1;", 1, 6);
        due("law 1);", 1, 5);
        due("law (1", 1, 6);
        good("law (((((1)))));");
        due("law ((((((1))))));", 2, 10);
        due("law ((((((wife", 2, 10);
        due("law ((((((not 1", 2, 10);
        due("law (((((((1)))))));", 2, 10);
        due("law (((((()", 1, 10);
        due("law ((((((;", 1, 10);
        due("law ((((((", 1, 10);
        due("law ((((((#", 1, 10);
        good("law (((((1)+(2)))*((3))));");
        due("law 1;one;", 1, 9);
    }

    private static void aFaultChangesNothing() {
        SpareWell well = Told.land(Told.FIVE);
        well.go(2);
        well.months(1);
        well.see(1, 0);
        well.image();
        CHECK.same("a fault", Told.tell(well, "one 1 1 1;one 4 1 1;hero 3;"), 2);
        CHECK.same("its place", well.fault(), 14);
        int[] due = {5, 3, 1, 2, 1, 4, 0, 1, 2, 2, 1, 0, 1, 0, 0};
        for (int what = 0; what < due.length; what++) {
            CHECK.same("count(" + what + ") behind a fault", well.count(what), due[what]);
        }
        CHECK.same("one(0, 1) behind a fault", well.one(0, 1), 5);
        CHECK.same("work(2, 2) behind a fault", well.work(2, 2), 10);
        CHECK.same("restore behind a fault", well.restore() ? 1 : 0, 1);
        CHECK.same("the law behind a fault", well.go(1), -1);
        CHECK.same("land(0)", well.land(0), 0);
        CHECK.same("fault behind land(0)", well.fault(), -1);
        CHECK.same("people behind land(0)", well.count(0), 0);
        CHECK.same("hero behind land(0)", well.count(3), 12);
        CHECK.same("status behind land(0)", well.count(12), 1);
        CHECK.same("image behind land(0)", well.restore() ? 1 : 0, 0);
    }

    // ---- drawn ----

    private static final String[] PIECES = {"one", "work", "bond", "hero", "law", "and", "or", "not",
        "strength", "skills", "gone", "home", "month", "town", "wife", "0", "1", "2", "3", "7", "8", "9", "10",
        "11", "12", "24", "25", "9999", "12345", ";", ";", ";", "(", "(", ")", "+", "-", "*", "/", "<", "=", "#", " ",
        "\n"};

    private static void drawn() {
        int texts = Integer.getInteger("texts", 6000);
        Random random = new Random(7);
        for (int i = 0; i < texts && CHECK.isAllAsDue(); i++) {
            Runner runner = new Runner(CHECK);
            for (int k = 0; k < 4; k++) {
                String text = i % 4 == 0 ? soup(random) : changed(random, lawful(random));
                runner.land(text.length() > 700 ? text.substring(0, 700) : text);
            }
            for (int what = 0; what <= 16; what++) {
                runner.call("count", what);
            }
        }
    }

    private static String lawful(Random random) {
        String text = Texts.land(random, random.nextInt(6));
        return random.nextInt(3) == 0 ? text + "law " + Texts.expr(random, 5) + ";" : text;
    }

    private static String soup(Random random) {
        StringBuilder text = new StringBuilder(random.nextBoolean() ? "law " : "");
        int many = random.nextInt(14);
        for (int i = 0; i < many; i++) {
            text.append(PIECES[random.nextInt(PIECES.length)]).append(random.nextBoolean() ? " " : "");
        }
        return text.toString();
    }

    private static String changed(Random random, String text) {
        StringBuilder changed = new StringBuilder(text);
        int many = random.nextInt(3);
        for (int i = 0; i < many && changed.length() > 0; i++) {
            int at = random.nextInt(changed.length());
            switch (random.nextInt(4)) {
                case 0 -> changed.deleteCharAt(at);
                case 1 -> changed.insert(at, PIECES[random.nextInt(PIECES.length)]);
                case 2 -> changed.setCharAt(at, (char) random.nextInt(256));
                default -> changed.setCharAt(at, (char) ('0' + random.nextInt(10)));
            }
        }
        return changed.toString();
    }
}
