/** The terms: what a text may tell, its tokens, its faults. */
final class BoundsOfTexts {
    private static final String P = "one 0 1 0;";
    private static final String W = "work 0 0 0 0 1;";
    private static final String EIGHT_BONDS =
            "bond 0 1;bond 0 2;bond 0 3;bond 0 4;bond 1 2;bond 1 3;bond 1 4;bond 2 3;";

    private final Sentences s;

    BoundsOfTexts(Sentences sentences) {
        s = sentences;
    }

    private void says(String words) {
        s.says(Sentences.TERMS, words);
    }

    void all() {
        townsAndSkills();
        people();
        works();
        bondsAndHero();
        theMonth();
        tape();
        tokens();
        lines();
        misplaced();
        tooMuch();
        tooMany();
        unknown();
        twice();
    }

    private void townsAndSkills() {
        says("TOWNS 0 to 3.");
        s.good("one 0 1 0;work 0 0 0 0 1;");
        s.good("one 3 1 0;work 3 0 0 0 1;");
        s.faulty("one 4 1 0;", 2, 4);
        s.faulty("work 4 0 0 0 1;", 2, 5);
        s.due("the highest one", Told.land("one 3 1 0;").one(0, 0), 3);
        says("SKILLS 0 to 7.");
        s.good("one 0 1 0;work 0 0 0 0 1;");
        s.good("one 0 1 7;work 0 7 0 0 1;");
        s.faulty("one 0 1 8;", 2, 8);
        s.faulty("one 0 1 7 8;", 2, 10);
        s.faulty("work 0 8 0 0 1;", 2, 7);
        s.due("the highest one", Told.land("one 3 1 7;").one(0, 2), 128);
    }

    private void people() {
        says("PEOPLE 0, 1 .. (at most 12)");
        s.due("none", Told.land("").count(0), 0);
        s.due("twelve", Told.land(P.repeat(12)).count(0), 12);
        s.due("the twelfth", Told.land(P.repeat(11) + "one 3 9 7;").one(11, 1), 9);
        s.faulty(P.repeat(13), 2, 120);
        says(": a TOWN, a STRENGTH (0 to 9), SKILLS (one or more).");
        s.due("strength 0", Told.land("one 0 0 0;").one(0, 1), 0);
        s.due("strength 9", Told.land("one 0 9 0;").one(0, 1), 9);
        s.faulty("one 0 10 0;", 2, 6);
        s.faulty("one 0 9;", 1, 7);
        s.due("one skill", Told.land("one 0 1 3;").one(0, 2), 8);
        s.due("all skills", Told.land("one 0 1 0 1 2 3 4 5 6 7;").one(0, 2), 255);
        s.due("in any order", Told.land("one 0 1 7 0 3;").one(0, 2), 137);
    }

    private static String monthsOf(String fromTo) {
        SpareWell well = Told.land("work 0 0 " + fromTo + " 1;");
        StringBuilder months = new StringBuilder();
        for (int month = 0; month < 12; month++) {
            months.append(well.work(0, 5));
            well.months(1);
        }
        return months.toString();
    }

    private void works() {
        says("WORKS 0, 1 .. (at most 14): in a TOWN a SKILL, from a MONTH (0 to 11)");
        s.due("none", Told.land("").count(1), 0);
        s.due("fourteen", Told.land(W.repeat(14)).count(1), 14);
        s.due("the fourteenth", Told.land(W.repeat(13) + "work 3 7 11 0 4;").work(13, 4), 4);
        s.faulty(W.repeat(15), 2, 210);
        s.good("work 0 0 11 11 1;");
        s.faulty("work 0 0 12 0 1;", 2, 9);
        s.faulty("work 0 0 0 12 1;", 2, 11);
        says(" to one (the same, a later one, or, if it is an earlier one, over the end of the year)");
        s.due("the same", monthsOf("5 5"), "000001000000");
        s.due("the first", monthsOf("0 0"), "100000000000");
        s.due("the last", monthsOf("11 11"), "000000000001");
        s.due("a later one", monthsOf("5 6"), "000001100000");
        s.due("all", monthsOf("0 11"), "111111111111");
        s.due("over the end", monthsOf("11 0"), "100000000001");
        s.due("over the end", monthsOf("10 2"), "111000000011");
        s.due("an earlier one by one", monthsOf("6 5"), "111111111111");
        s.due("all but one", monthsOf("6 4"), "111110111111");
        says(", so many (1 to 4) PIECES.");
        s.due("one", Told.land("work 0 0 0 0 1;").count(8), 1);
        s.due("four", Told.land("work 0 0 0 0 4;").count(8), 4);
        s.faulty("work 0 0 0 0 0;", 2, 13);
        s.faulty("work 0 0 0 0 5;", 2, 13);
        s.due("all that there may be", Told.land("work 0 0 0 0 4;".repeat(14)).count(8), 56);
    }

    private void bondsAndHero() {
        says("BONDS (at most 8): one of PEOPLE and another one, of whom not both may be gone.");
        s.due("none", Told.land(P).count(2), 0);
        SpareWell full = Told.land(P.repeat(5) + EIGHT_BONDS);
        s.due("eight", full.count(2), 8);
        s.due("with all", full.one(0, 5), 30);
        s.due("the eighth", full.can(12, 0), false);
        s.due("3 and 4 are free", full.can(24, 0), true);
        s.faulty(P.repeat(5) + EIGHT_BONDS + "bond 2 4;", 2, 122);
        SpareWell two = Told.land(P + P + "bond 1 0;");
        s.due("one goes", two.go(1), 1);
        s.due("the other one not", two.go(0), -1);
        two.back(1);
        s.due("but now", two.go(0), 1);
        says("HERO (0 to 24; 12 without): so many MONTHS one is a HERO.");
        s.due("without", Told.land("").count(3), 12);
        s.due("none", Told.land("hero 0;").count(3), 0);
        s.due("the most", Told.land("hero 24;").count(3), 24);
        s.faulty("hero 25;", 2, 5);
        int[] lengths = {0, 1, 12, 24};
        for (int length : lengths) {
            SpareWell well = Told.land(P + "hero " + length + ";");
            well.go(0);
            well.back(0);
            for (int month = 0; month < length; month++) {
                s.due("hero " + length + " in month " + month, well.one(0, 4), length - month);
                s.due("he stays in month " + month, well.spared(), 0);
                well.months(1);
            }
            s.due("hero " + length + " then", well.one(0, 4), 0);
            s.due("he may go then", well.spared(), 1);
        }
    }

    private void theMonth() {
        says("The MONTH is 0 at first, and MONTHS are counted on (the MONTH of the year is that MOD 12).");
        SpareWell well = Told.land("one 0 1 0;work 0 0 0 0 1;");
        s.due("at first", well.count(4), 0);
        s.due("month 0 has work", well.count(8), 1);
        s.due("eleven on", well.months(11), 11);
        s.due("month 11 has none", well.count(8), 0);
        s.due("over the year", well.months(1), 12);
        s.due("month 12 has that of month 0", well.count(8), 1);
        s.due("two years", well.months(24), 36);
        s.due("month 36 has it", well.count(8), 1);
        for (int i = 0; i < 200; i++) {
            well.months(24);
        }
        s.due("counted on", well.count(4), 36 + 4800);
        s.due("and it comes again", well.count(8), 1);
        s.due("one more", well.months(1), 4837);
        s.due("month 1 of the year", well.count(8), 0);
    }

    private void tape() {
        says("A TEXT of at most 700 bytes tells it.");
        String full = "law " + "1+".repeat(345) + "1=346;";
        s.due("its length", full.length(), 700);
        s.good(full);
        SpareWell well = new SpareWell();
        Told.feed(well, full);
        s.due("no more comes", well.feed(0x20202020, 0x20202020, 0x20202020, 0x20202020, 0x20202020), -1);
        s.due("it stands", well.land(700), 0);
        s.good(" ".repeat(700));
        s.faulty(" ".repeat(699) + ";", 1, 699);
        s.faulty("law " + "1+".repeat(348), 1, 700);
        s.good("law " + "(1)*".repeat(173) + "(1);");
        s.good("law not " + "not 1 or ".repeat(76) + "not 1;");
    }

    private void tokens() {
        says("TOKENS: words (a .. z, the longest row),");
        s.good("one0 1 0;one0 1 0;bond0 1;");
        s.faulty("oneone 0 1 0;", 1, 0);
        s.faulty("onework 0 1 0;", 1, 0);
        s.faulty("on e 0 1 0;", 1, 0);
        s.faulty("o", 1, 0);
        String[] lines = {"one 0 1 0;", "work 0 0 0 0 1;", "bond 0 1;", "hero 1;", "law 1;"};
        for (String line : lines) {
            s.good(P + P + line);
            for (int i = 0; i < line.indexOf(' '); i++) {
                s.faulty(P + P + line.substring(0, i) + "x" + line.substring(i + 1), 1, 20);
            }
        }
        s.faulty("hero 1`;", 1, 6);
        s.faulty("hero 1{;", 1, 6);
        s.faulty("HERO 1;", 1, 0);
        s.faulty("law strengths;", 3, 4);
        s.faulty("law streng th;", 3, 4);
        s.good("law strength<4and town;");
        s.good("law 4or 5;");
        says(" NUMBERS (1 to 4 digits),");
        s.good("law 0;");
        s.good("law 0000;");
        s.good("law 9999;");
        s.faulty("law 00000;", 2, 4);
        s.faulty("law 10000;", 2, 4);
        s.faulty("law 99999999999999999999;", 2, 4);
        s.good("one 0003 0009 0007 0006;");
        s.faulty("one 00003 1 0;", 2, 4);
        s.faulty("hero 1:;", 1, 6);
        s.faulty("law 1.5;", 1, 5);
        says(" signs ; ( ) + - * / < = ;");
        s.good("law (1+2-3*4/5<6)=7;");
        for (int sign = 33; sign < 127; sign++) {
            if (";()+-*/<=0123456789".indexOf(sign) < 0) {
                s.faulty("law 1" + (char) sign + "1;", 1, 5);
            }
        }
        says(" blanks (32, 10) between them count for nothing.");
        s.good(" \n\none\n 0 \n1  0\n;\n \n");
        s.good("\n");
        s.good("hero\n3 ;");
        s.faulty("he ro 3;", 1, 0);
        s.faulty("hero 2 4;", 1, 7);
        for (int sign = 0; sign < 256; sign++) {
            if (sign != 10 && (sign < 32 || sign > 126)) {
                s.faulty("hero" + (char) sign + "3;", 1, 4);
            }
        }
    }

    /** Each line ends too soon behind every token, and is too long by one. */
    private void lines() {
        says("In quotes is what stands there, [ ] perhaps, * any number of times, | one of some.");
        s.good("law 1;");
        s.good("law 1<2;");
        s.faulty("law 1<2<3;", 1, 7);
        says("LAND: LINE*.");
        s.good("");
        s.good("hero 1;law 1;");
        s.good("law 1;hero 1;work 0 0 0 0 1;one 0 1 0;");
        s.faulty(";", 1, 0);
        s.faulty("hero 1;;", 1, 7);
        s.faulty("hero 1;7", 1, 7);
        says("LINE: ('one' TOWN STRENGTH SKILL SKILL* | 'work' TOWN SKILL MONTH MONTH NUMBER | 'bond' PERSON PERSON"
                + " | 'hero' NUMBER | 'law' EXPR) ';', all in capitals but EXPR being NUMBERS.");
        String[] told = {"one 0 1 0 ;", "work 0 0 0 0 1 ;", "bond 0 1 ;", "hero 3 ;", "law 3 ;"};
        for (String line : told) {
            endsTooSoon(P + P + line);
        }
        s.faulty("work 0 0 0 0 1 1;", 1, 15);
        s.faulty(P + P + "bond 0 1 1;", 1, 29);
        s.faulty("hero 3 3;", 1, 7);
        s.faulty("law 3 3;", 1, 6);
        s.faulty("one 0 strength 0;", 1, 6);
        s.faulty("one 0 1 (0);", 1, 8);
        s.faulty("hero hero;", 1, 5);
        s.faulty("town 1;", 1, 0);
        s.faulty("and;", 1, 0);
    }

    private void endsTooSoon(String text) {
        s.good(text);
        for (int end = text.indexOf(' ', 20); end > 0; end = text.indexOf(' ', end + 1)) {
            s.faulty(text.substring(0, end), 1, end);
            s.faulty(text.substring(0, end) + " \n", 1, end + 2);
            if (end != text.length() - 2) {
                s.faulty(text.substring(0, end) + " ;", 1, end + 1);
            }
        }
    }

    private void misplaced() {
        says("FAULTS, the first along the text, at a TOKEN's first byte, of one TOKEN the least:");
        s.faulty("one 9 99 999;work", 2, 4);
        s.faulty("hero   25  ;", 2, 7);
        s.faulty("hero 1;hero 25;", 5, 7);
        s.faulty("hero 12345 12345;", 2, 5);
        s.faulty("hero 1 12345;", 1, 7);
        s.faulty("law ((((((wife))))));", 2, 10);
        s.faulty(P.repeat(5) + EIGHT_BONDS + "bond 0 0;", 2, 122);
        s.faulty("one 0 1 2 2 2;", 4, 10);
        says(" 1 a TOKEN that can't stand there, or is none (the text's length where it ends too soon);");
        s.faulty("law 1 +;", 1, 7);
        s.faulty("law 1 (2);", 1, 6);
        s.faulty("law 1 2;", 1, 6);
        s.faulty("law 1 wife;", 1, 6);
        s.faulty("law (1;", 1, 6);
        s.faulty("law 1);", 1, 5);
        s.faulty("law ();", 1, 5);
        s.faulty("law ;", 1, 4);
        s.faulty("law <1;", 1, 4);
        s.faulty("law #;", 1, 4);
        s.faulty("law not;", 1, 7);
        s.faulty("law 1", 1, 5);
        s.faulty("law (1)  ", 1, 9);
        s.faulty("law\n", 1, 4);
        s.faulty("hero 1", 1, 6);
        SpareWell well = new SpareWell();
        Told.feed(well, "hero 1;hero 2;      ");
        s.due("only n bytes are the text", well.land(6), 1);
        s.due("it ends there", well.fault(), 6);
        Told.feed(well, "hero 12;");
        s.due("a number ends with the text", well.land(6), 1);
        s.due("it ends there", well.fault(), 6);
        Told.feed(well, "hero 12;");
        s.due("a word ends with the text", well.land(3), 1);
        s.due("it is none", well.fault(), 0);
        s.faulty("law " + "1+".repeat(347) + "12", 1, 700);
        s.faulty("law " + "1+".repeat(346) + "town", 1, 700);
        s.faulty("law " + "1+".repeat(347) + "or", 3, 698);
        s.faulty(" ".repeat(699) + "o", 1, 699);
    }

    private void tooMuch() {
        says(" 2 one that can, but is too much: a NUMBER of 5 digits or more, or (not in an EXPR) not as told,");
        s.faulty("one 00000 1 0;", 2, 4);
        s.faulty("one 0 00001 0;", 2, 6);
        s.faulty("one 0 1 00000;", 2, 8);
        s.faulty("one 0 1 1 00000;", 2, 10);
        s.faulty("work 00000 0 0 0 1;", 2, 5);
        s.faulty("work 0 00000 0 0 1;", 2, 7);
        s.faulty("work 0 0 00000 0 1;", 2, 9);
        s.faulty("work 0 0 0 00000 1;", 2, 11);
        s.faulty("work 0 0 0 0 00001;", 2, 13);
        s.faulty(P + P + "bond 00000 1;", 2, 25);
        s.faulty(P + P + "bond 0 00001;", 2, 27);
        s.faulty("hero 00001;", 2, 5);
        s.faulty("law 1+00001;", 2, 6);
        s.good("law 9999*9999;");
        s.faulty("one 9999 1 0;", 2, 4);
        s.faulty("work 0 0 0 0 9999;", 2, 13);
        s.faulty("hero 9999;", 2, 5);
    }

    private void tooMany() {
        says(" the first TOKEN of the 13th of PEOPLE,");
        s.good(P.repeat(12));
        s.faulty(P.repeat(12) + "one", 2, 120);
        s.faulty(P.repeat(12) + " one 9;", 2, 121);
        says(" the 15th WORK,");
        s.good(W.repeat(14));
        s.faulty(W.repeat(14) + "work", 2, 210);
        s.faulty(W.repeat(14) + " work 9;", 2, 211);
        says(" the 9th BOND,");
        s.good(P.repeat(5) + EIGHT_BONDS);
        s.faulty(P.repeat(5) + EIGHT_BONDS + "bond", 2, 122);
        s.faulty(P.repeat(5) + EIGHT_BONDS + " bond 9;", 2, 123);
        s.good(P.repeat(12) + W.repeat(14) + "bond 0 1;bond 0 2;bond 0 3;bond 0 4;bond 0 5;bond 0 6;bond 0 7;bond 0 8;"
                + "hero 3;law 1;");
        says(" of an EXPR within 6 others (a NUMBER, any word, a parenthesis),");
        s.good("law (((((1)))));");
        s.good("law (((((not not not not not not town)))));");
        s.good("law (((((1))+((2)))));");
        s.faulty("law ((((((1))))));", 2, 10);
        s.faulty("law ((((((town))))));", 2, 10);
        s.faulty("law ((((((not", 2, 10);
        s.faulty("law ((((((or", 2, 10);
        s.faulty("law ((((((law", 2, 10);
        s.faulty("law ((((((wife", 2, 10);
        s.faulty("law (((((((", 2, 10);
        s.faulty("law ((((((12345", 2, 10);
        s.faulty("law ((((((;", 1, 10);
        s.faulty("law ((((((+", 1, 10);
        s.faulty("law ((((((?", 1, 10);
        s.faulty("law ((((((", 1, 10);
        s.faulty("law (((((1)))))+(((((2)))))+((((((3", 2, 34);
        says(" the seventh 'not' side by side;");
        s.good("law not not not not not not 1;");
        s.faulty("law not not not not not not not 1;", 2, 28);
        s.faulty("law not not not not not not\nnot", 2, 28);
        s.good("law not not not not not not (not not not not not not 1);");
        s.good("law not not not not not not 1 and not not not not not not 1 or not not not not not not 1;");
        s.faulty("law 1 or not not not not not not not", 2, 33);
    }

    private void unknown() {
        says(" 3 any word where a PART must stand that is no VALUE,");
        String[] words = {"wife", "one", "work", "bond", "law", "and", "or", "a", "strengt", "homes"};
        for (String word : words) {
            s.faulty("law " + word, 3, 4);
            s.faulty("law 1+" + word + ";", 3, 6);
            s.faulty("law 1 and " + word + ";", 3, 10);
            s.faulty("law not (" + word + ");", 3, 9);
        }
        s.faulty("law 1+not 1;", 3, 6);
        s.faulty("law 1*not 1;", 3, 6);
        s.faulty("law 1<not 1;", 3, 6);
        s.good("law 1 or not 1;");
        s.good("law hero;");
        says(" a PERSON that isn't told ahead;");
        s.faulty("bond 0 0;", 3, 5);
        s.faulty(P + "bond 1 0;", 3, 15);
        s.faulty(P + "bond 0 1;", 3, 17);
        s.faulty(P + "bond 0 1;" + P, 3, 17);
        s.good(P + P + "bond 0 1;");
        s.faulty(P.repeat(12) + "bond 12 0;", 3, 125);
        s.faulty(P.repeat(12) + "bond 0 9999;", 3, 127);
        s.good(P.repeat(12) + "bond 11 0;");
    }

    private void twice() {
        says(" 4 a SKILL that one has already,");
        s.faulty("one 0 1 0 0;", 4, 10);
        s.faulty("one 0 1 0 0000;", 4, 10);
        s.faulty("one 0 1 0 1 2 3 4 5 6 7 7;", 4, 24);
        s.good("one 0 1 0;one 0 1 0;");
        says(" the second PERSON of a BOND that is the first one,");
        s.faulty(P + "bond 0 0;", 4, 17);
        s.faulty(P + P + "bond 1 0001;", 4, 27);
        says(" or bound with it already (either way round);");
        s.faulty(P + P + "bond 0 1;bond 0 1;", 4, 36);
        s.faulty(P + P + "bond 0 1;bond 1 0;", 4, 36);
        s.faulty(P + P + "bond 1 0;bond 0 1;", 4, 36);
        s.good(P + P + P + "bond 0 1;bond 1 2;bond 2 0;");
        says(" 5 a second 'hero', 'law'.");
        s.faulty("hero 1;hero 1;", 5, 7);
        s.faulty("hero 0;hero", 5, 7);
        s.faulty("law 0;law 0;", 5, 6);
        s.faulty("law 1;law", 5, 6);
        s.faulty("law 1; hero 12;law", 5, 15);
        s.good("law hero and hero;hero 1;");
    }
}
