/** The document's fourth and fifth parts: secrets, games, years, who is needed, and the rest. */
final class BoundsOfTowns {
    private static final String P = "one 0 1 0;";

    private final Sentences s;

    BoundsOfTowns(Sentences sentences) {
        s = sentences;
    }

    private void says(String words) {
        s.says(Sentences.TERMS, words);
    }

    void all() {
        seen();
        fewest();
        game();
        rests();
        year();
        draws();
        neededAndFree();
        waysAndDoers();
        recalledAndAllMonths();
        school();
        clash();
        lackingWorthShort();
        status();
    }

    private void seen() {
        says("SEEN (at most 8): that somebody did a PIECE of a SKILL.");
        SpareWell well = Told.land(P + "one 0 1 1;");
        for (int i = 1; i <= 8; i++) {
            s.due("seen", well.see(i % 2, i - 1), i);
        }
        s.due("the ninth", well.see(0, 0), -1);
        s.due("eight stay", well.count(10), 8);
        says(" SECRET is what one did whose SKILL he hasn't.");
        SpareWell one = Told.land("one 0 1 0 7;");
        one.see(0, 0);
        one.see(0, 7);
        s.due("what he has", one.secret(0), 0);
        one.see(0, 1);
        one.see(0, 1);
        s.due("what he hasn't, each time", one.secret(0), 2);
        SpareWell learns = Told.land(P + "one 0 1 1;");
        learns.see(0, 1);
        s.due("a secret", learns.secret(0), 1);
        learns.learn(0, 1, 1);
        s.due("he has it now", learns.secret(0), 0);
        learns.undo();
        s.due("and hasn't", learns.secret(0), 1);
        says(" TEACHERS of that: others of his TOWN who have it.");
        s.due("1 has it", learns.secret(1), 2);
        learns.move(1, 2);
        s.due("he is elsewhere", learns.secret(1), -1);
        learns.move(0, 2);
        s.due("they are together again", learns.secret(1), 2);
        learns.go(1);
        s.due("gone or not", learns.secret(1), 2);
    }

    private void fewest() {
        says(" THE FEWEST PEOPLE of whom some one is a TEACHER of each SECRET: of as few the least as bits; none.");
        SpareWell well = Told.land("one 0 1 0;one 0 1 1;one 0 1 2;one 0 1 1 2;one 0 1 1 2;one 0 1 3;");
        s.due("no secrets, nobody", well.secret(1), 0);
        well.see(0, 1);
        s.due("the least of three", well.secret(1), 2);
        well.see(0, 2);
        s.due("one for both, the least", well.secret(1), 8);
        well.see(0, 3);
        s.due("and one more", well.secret(1), 40);
        well.see(1, 0);
        s.due("and one more", well.secret(1), 41);
        well.see(5, 7);
        s.due("nobody teaches that", well.secret(1), -1);
        s.due("it counts", well.secret(0), 5);
        SpareWell all = Told.land("one 0 1 0;one 0 1 1;one 0 1 2;one 0 1 3;one 0 1 4;one 0 1 5;one 0 1 6;one 0 1 7;"
                + "one 1 1 1;".repeat(4));
        for (int skill = 0; skill < 8; skill++) {
            all.see(skill == 0 ? 1 : 0, skill);
        }
        s.due("eight secrets, eight teachers", all.secret(1), 255);
        SpareWell each = Told.land("one 0 1 0;one 0 1 1;");
        each.see(0, 1);
        each.see(1, 0);
        s.due("everybody", each.secret(1), 3);
    }

    private void rest(String text, int many, int first) {
        SpareWell well = Told.land(text);
        s.due("how many: " + text, well.game(0, 1, 0), many);
        s.due("the first: " + text, well.game(0, 1, 1), first);
        int turned = first < 0 ? -1 : first % 10 * 10 + first / 10;
        if (many < 2) {
            s.due("the other way round: " + text, well.game(1, 0, 1), turned);
        }
    }

    private void game() {
        says("A GAME of two TOWNS: each chooses how many of its PEOPLE (gone or not) it sends, 0 to 4,");
        rest("", 1, 0);
        rest("one 0 5 0;", 1, 10);
        // one of 3 is beaten by four of 1, who cost 8 and gain 10; one of 4 isn't
        rest("one 0 3 0;one 1 1 0;one 1 1 0;one 1 1 0;one 1 1 0;", 0, -1);
        rest("one 0 3 0;one 1 1 0;one 1 1 0;one 1 1 0;", 1, 10);
        rest("one 0 4 0;one 1 1 0;one 1 1 0;one 1 1 0;one 1 1 0;", 1, 10);
        rest("one 0 4 0;one 1 1 0;one 1 1 0;one 1 1 0;one 1 1 0;one 1 1 0;", 1, 10);
        SpareWell gone = Told.land("one 0 5 0;one 1 4 0;");
        gone.go(0);
        s.due("gone or not", gone.game(0, 1, 1), 10);
        says(" no more than it has,");
        rest("one 0 9 0;one 1 4 0;one 1 5 0;", 1, 10);
        rest("one 0 9 0;one 1 5 0;one 1 5 0;", 0, -1);
        SpareWell moved = Told.land("one 0 9 0;one 1 5 0;one 1 5 0;");
        moved.move(2, 2);
        s.due("those who are there now", moved.game(0, 1, 1), 10);
        says(" the strongest first (of like ones the least):");
        rest("one 0 1 0;one 0 7 0;one 1 5 0;one 1 1 0;", 1, 10);
        rest("one 0 2 0;one 0 7 0;one 0 7 0;one 1 3 0;one 1 3 0;", 1, 10);
    }

    private void rests() {
        says(" the one whose STRENGTHS are more together gains 10; each pays 2 for each that it sends.");
        rest("one 0 1 0;", 1, 10);
        rest("one 0 0 0;", 1, 0);
        rest("one 0 0 0;one 1 0 0;", 1, 0);
        rest("one 0 9 0;one 1 9 0;", 2, 1);
        rest("one 0 9 0;one 1 8 0;", 1, 10);
        rest("one 0 8 0;one 1 9 0;", 1, 1);
        says(" A couple RESTS, if neither gains more by another number: how many; the first (10 by both).");
        rest("one 0 9 0;one 0 9 0;one 1 9 0;one 1 9 0;", 0, -1);
        rest("one 0 9 0;one 0 9 0;one 1 9 0;", 1, 10);
        rest("one 0 9 0;one 0 0 0;one 1 9 0;one 1 0 0;", 2, 1);
        s.due("two empty towns", Told.land("").game(3, 2, 1), 0);
    }

    private void years(String text, int seed, int n, int went, int gone, int undone) {
        SpareWell well = Told.land(text);
        String what = "seed " + seed + ", " + n + " months: " + text;
        s.due("went, " + what, well.year(seed, n, 0), went);
        s.due("gone, " + what, well.year(seed, n, 1), gone);
        s.due("undone, " + what, well.year(seed, n, 2), undone);
        s.due("nothing changes, " + what, well.count(4) + well.count(5) + well.count(6) + well.count(9), 0);
    }

    private void year() {
        says("A YEAR by a seed, from now on: n MONTHS (0 to 60):");
        years(P, 1, 0, 0, 0, 0);
        years(P, 1, 1, 1, 1, 0);
        years(P + "hero 0;", 1, 60, 30, 0, 0);
        years(P + "hero 0;", 1, 59, 30, 1, 0);
        SpareWell now = Told.land("work 0 0 0 0 1;");
        now.months(11);
        s.due("month 11", now.year(1, 1, 2), 0);
        s.due("over the end of the year", now.year(1, 2, 2), 1);
        s.due("five years", now.year(1, 60, 2), 5);
        says(" in each, if there are PEOPLE, one is drawn:");
        years("", 7, 60, 0, 0, 0);
        years("work 0 0 0 11 1;", 7, 60, 0, 0, 60);
        says(" who CAN BE SPARED GOES; who is gone comes BACK; else nothing; then a MONTH goes by:");
        // without a told hero he is one for 12 months from month 1 on: he goes in 0, 13, 26, 39, 52
        years(P, 1, 13, 1, 0, 0);
        years(P, 1, 14, 2, 1, 0);
        years(P, 1, 15, 2, 0, 0);
        years(P, 1, 60, 5, 0, 0);
        years(P + "hero 1;", 1, 3, 2, 1, 0);
        years(P + "hero 2;", 1, 3, 1, 0, 0);
        years(P + "hero 2;", 1, 4, 2, 1, 0);
        years(P + "hero 0;law month=2;", 1, 60, 5, 0, 0);
        years(P + "work 0 0 0 10 1;hero 0;", 1, 12, 1, 1, 0);
        years(P + "law 0;", 1, 60, 0, 0, 0);
        SpareWell hero = Told.land(P + "hero 2;");
        hero.go(0);
        hero.back(0);
        s.due("a hero now is one then", hero.year(1, 2, 0), 0);
        s.due("for his months", hero.year(1, 3, 0), 1);
        SpareWell gone = Told.land(P);
        gone.go(0);
        s.due("who is gone now comes back", gone.year(1, 1, 1), 0);
        s.due("that is no going", gone.year(1, 1, 0), 0);
        s.due("no months", gone.year(1, 0, 1), 1);
        says(" how often somebody went; how many are gone at the end; in how many MONTHS, before it goes by, not all"
                + " WORK was DONE by those at home.");
        years("work 0 0 3 5 1;", 1, 3, 0, 0, 0);
        years("work 0 0 3 5 1;", 1, 4, 0, 0, 1);
        years("work 0 0 3 5 1;", 1, 60, 0, 0, 15);
        years(P + "work 0 0 1 1 1;hero 0;", 1, 2, 1, 0, 0);
        // by seed 0 the drawn are 0 0 0 1 0: 0 is gone from month 2 to 4
        String two = "one 0 1 0;one 0 1 1;hero 0;";
        years(two + "work 0 0 3 3 1;", 0, 3, 2, 1, 0);
        years(two + "work 0 0 3 3 1;", 0, 4, 2, 1, 1);
        years(two + "work 0 0 3 3 1;", 0, 5, 2, 0, 1);
        years(two + "work 0 0 4 4 1;", 0, 4, 3, 2, 0);
        years(two + "work 0 0 4 4 1;", 0, 5, 3, 1, 0);
    }

    private void draws() {
        says("A seed becomes itself times 1103515245 and 12345 (an int that wraps); a DRAW of n is its bits 16 to 30"
                + " MOD n then.");
        String twelve = P.repeat(12);
        years(twelve + "hero 0;", 0, 60, 33, 6, 0);
        years(twelve + "hero 0;", 1, 60, 33, 6, 0);
        years(twelve + "hero 0;", -1, 60, 32, 4, 0);
        years(twelve + "hero 0;", 5, 60, 32, 4, 0);
        years(twelve + "hero 24;", 1, 60, 21, 5, 0);
        years(twelve + "hero 24;", 5, 60, 19, 4, 0);
        // bit 31 is none of them, and never comes down
        years(twelve + "hero 24;", 5 + Integer.MIN_VALUE, 60, 19, 4, 0);
        years(twelve + "hero 0;", Integer.MIN_VALUE, 60, 33, 6, 0);
        years(twelve + "hero 0;", Integer.MAX_VALUE, 60, 32, 4, 0);
        // the first draws: of 12 by seed 0 it is 0, by 1 it is 2, by -1 it is 5, by 5 it is 7
        int[] seeds = {0, 1, -1, 5};
        int[] drawn = {0, 2, 5, 7};
        for (int i = 0; i < 4; i++) {
            StringBuilder row = new StringBuilder();
            for (int person = 0; person < 12; person++) {
                row.append("one 0 ").append(person == drawn[i] ? 1 : 0).append(" 0;");
            }
            years(row + "law strength;", seeds[i], 1, 1, 1, 0);
            years(row + "law strength=0;", seeds[i], 1, 0, 0, 0);
        }
    }

    private void neededAndFree() {
        says("NEEDED are those at home without whom (each alone) not all WORK of this MONTH would be DONE by the"
                + " others at home;");
        s.due("no work", Told.land(P).needed(), 0);
        SpareWell well = Told.land("one 0 1 0;one 0 1 0;one 0 1 1;one 1 1 1;work 0 0 0 0 1;work 0 1 0 0 1;");
        s.due("2 alone", well.needed(), 4);
        well.go(0);
        s.due("1 too, who is gone is not", well.needed(), 6);
        well.months(1);
        s.due("nobody", well.needed(), 0);
        s.due("all twelve", Told.land(P.repeat(12) + "work 0 0 0 0 4;".repeat(3)).needed(), 4095);
        SpareWell bound = Told.land(P + P + "bond 0 1;");
        bound.go(0);
        s.due("bonds count for nothing", bound.needed(), 0);
        says(" nobody, if it isn't with them.");
        SpareWell undone = Told.land(P + "work 0 0 0 0 1;work 0 1 0 0 1;");
        s.due("undone anyhow", undone.needed(), 0);
        s.due("nobody at all", Told.land("work 0 0 0 0 1;").needed(), 0);
        says(" FREE are those who, each alone, CAN BE GONE in every MONTH of the year.");
        s.due("nobody", Told.land("").free(), 0);
        s.due("all", Told.land(P.repeat(12)).free(), 4095);
        s.due("each alone", Told.land(P + P + "work 0 0 0 11 1;").free(), 3);
        s.due("not in the last month", Told.land("one 0 1 0;one 0 1 1;work 0 0 11 11 1;").free(), 2);
        s.due("not in the first month", Told.land("one 0 1 0;one 0 1 1;work 0 0 0 0 1;").free(), 2);
        s.due("undone in one month: nobody", Told.land(P + P + "work 1 0 6 6 1;").free(), 0);
        s.due("law and bonds count for nothing", Told.land(P + P + "bond 0 1;law 0;").free(), 3);
    }

    private void waysAndDoers() {
        says(" WAYS: in how many ways all PIECES of this MONTH can be given to those at home (each PIECE to one, no"
                + " two to one);");
        s.due("no pieces, nobody: one way", Told.land("").ways(), 1L);
        s.due("no pieces", Told.land(P + P).ways(), 1L);
        s.due("nobody can", Told.land("work 0 0 0 0 1;").ways(), 0L);
        s.due("two pieces of one work count apart", Told.land(P + P + "work 0 0 0 0 2;").ways(), 2L);
        s.due("more pieces than people", Told.land(P + P + "work 0 0 0 0 3;").ways(), 0L);
        s.due("twelve in a row", Told.land(P.repeat(12) + "work 0 0 0 0 4;".repeat(3)).ways(), 479001600L);
        s.due("thirteen pieces", Told.land(P.repeat(12) + "work 0 0 0 0 4;".repeat(3) + "work 0 0 0 0 1;").ways(), 0L);
        SpareWell well = Told.land("one 0 1 0 1;one 0 1 0;one 0 1 1;work 0 0 0 0 1;work 0 1 0 0 1;work 0 0 1 1 1;");
        s.due("0 2, 1 0, 1 2", well.ways(), 3L);
        well.go(2);
        s.due("without 2: 1 0", well.ways(), 1L);
        well.months(1);
        s.due("in month 1: 0, 1", well.ways(), 2L);
        says(" PIECES are in the order of their WORKS.");
        SpareWell order = Told.land("one 0 1 1;one 0 1 0;work 0 0 0 0 1;work 0 2 1 1 1;work 0 1 0 0 1;");
        s.due("the first work's", order.doer(0), 1);
        s.due("the third one's, as this month has no second", order.doer(1), 0);
        says(" THE DOER of the i-th PIECE: by the first such row (of PEOPLE by PIECES); none.");
        SpareWell row = Told.land("one 0 1 0 1;one 0 1 0;one 0 1 1;work 0 0 0 0 1;work 0 1 0 0 1;work 1 0 1 1 1;");
        s.due("0 does the first", row.doer(0), 0);
        s.due("so 2 the second", row.doer(1), 2);
        row.go(2);
        s.due("0 must do the second", row.doer(1), 0);
        s.due("so 1 the first", row.doer(0), 1);
        row.months(1);
        s.due("nobody can", row.doer(0), -1);
        SpareWell ahead = Told.land("one 0 1 5;one 0 1 0 1;one 0 1 0;work 0 0 0 0 1;work 0 1 0 0 1;");
        s.due("1 could, but must do the second", ahead.doer(0), 2);
        s.due("he does", ahead.doer(1), 1);
        SpareWell four = Told.land(P.repeat(5) + "work 0 0 0 0 4;");
        s.due("the last of four", four.doer(3), 3);
        SpareWell half = Told.land(P + "work 0 0 0 0 1;work 0 1 0 0 1;");
        s.due("one could be done, not all", half.doer(0), -1);
    }

    private void recalledAndAllMonths() {
        says("RECALLED: the fewest of those who are gone who would have to be back so that all WORK is DONE in that"
                + " MONTH which is so many MONTHS (0 to 11) on: of as few the least as bits; none.");
        SpareWell well = Told.land("one 0 1 0;one 0 1 1;one 0 1 0 1;work 0 0 3 3 1;work 0 1 11 11 1;work 0 0 2 2 2;"
                + "work 0 2 7 7 1;");
        s.due("nobody is gone", well.recalled(3), 0);
        s.due("nobody could", well.recalled(7), -1);
        well.go(2);
        well.go(1);
        well.go(0);
        s.due("no work now", well.recalled(0), 0);
        s.due("one of two: the least", well.recalled(3), 1);
        s.due("one of the others: the least", well.recalled(11), 2);
        s.due("both of two", well.recalled(2), 5);
        s.due("none", well.recalled(7), -1);
        well.months(4);
        s.due("over the end of the year", well.recalled(11), 1);
        s.due("to month 2", well.recalled(10), 5);
        well.back(2);
        s.due("one is at home", well.recalled(11), 0);
        s.due("so one other", well.recalled(10), 1);
        SpareWell twelve = Told.land(P.repeat(12) + "work 0 0 1 1 4;".repeat(3));
        for (int person = 0; person < 12; person++) {
            twelve.go(person);
        }
        s.due("all twelve", twelve.recalled(1), 4095);
        says("ALL MONTHS: THE MOST of each of so many MONTHS (0 to 24) from this one on, together");
        SpareWell all = Told.land(P + P + "work 0 0 1 1 1;work 0 0 3 3 3;");
        s.due("no months", all.allMonths(0), 0);
        s.due("this one", all.allMonths(1), 2);
        s.due("two", all.allMonths(2), 3);
        s.due("three", all.allMonths(3), 5);
        all.months(11);
        s.due("over the end of the year", all.allMonths(3), 5);
        all.undo();
        says(" (none counts 0).");
        s.due("month 3 has none", all.allMonths(4), 5);
        s.due("a year", all.allMonths(12), 21);
        s.due("two years", all.allMonths(24), 42);
        s.due("none all the time", Told.land("work 0 0 0 11 1;").allMonths(24), 0);
        s.due("twelve all the time", Told.land(P.repeat(12)).allMonths(24), 288);
    }

    private void school() {
        says("SCHOOL: of all that one at home could LEARN (of another one, as by the ACT) that by which THE MOST of"
                + " this MONTH is greatest, if it is more than without; of like ones the first"
                + " (by PEOPLE, then SKILLS); none.");
        s.due("nobody", Told.land("").school(), -1);
        s.due("nothing to learn", Told.land(P + P + "work 0 0 0 0 1;").school(), -1);
        s.due("it is no more than without", Told.land("one 0 1 0;one 0 1 1;work 0 0 0 0 1;").school(), -1);
        String bound = "one 0 1 0;one 0 1 1;one 0 1 1;bond 1 2;work 0 0 0 0 1;";
        SpareWell well = Told.land(bound);
        s.due("the first of like ones by people", well.school(), 10);
        well.go(1);
        s.due("who is gone learns nothing", well.school(), 20);
        well.undo();
        well.move(1, 2);
        s.due("nor who is elsewhere", well.school(), 20);
        well.undo();
        well.go(1);
        well.move(0, 1);
        s.due("nobody teaches him", well.school(), -1);
        SpareWell gone = Told.land("one 0 1 0;one 0 1 1;one 0 1 2;bond 1 2;work 0 0 1 1 1;");
        gone.go(0);
        gone.months(1);
        s.due("who is gone teaches nothing", gone.school(), -1);
        gone.back(0);
        s.due("a hero does", gone.school(), 10);
        s.due("the last one, the last skill", Told.land("one 1 1 7;".repeat(9) + "one 0 1 7;one 0 1 1;one 0 1 2;"
                + "bond 10 11;work 0 7 0 0 1;").school(), 107);
        s.due("the first of like ones by skills",
                Told.land("one 0 1 3 5;one 0 1 0;work 0 3 0 0 1;work 0 5 0 0 1;").school(), 13);
        // does 1 learn, one of 2 and 3 can be gone; does 2, both 1 and 3 can
        s.due("the greatest, not the first",
                Told.land("one 0 1 0;one 0 1 1;one 0 1 2;one 0 1 3;bond 2 3;work 0 0 0 0 2;").school(), 20);
    }

    private void clash() {
        says("A CLASH: two who both CAN BE SPARED now, but not the second any more, did the first GO, nor the first,"
                + " did the second: how many couples; the first (100 by the lesser and the other one).");
        s.due("nobody", Told.land("").clash(0), 0);
        s.due("none", Told.land("").clash(1), -1);
        s.due("both may go", Told.land(P + P).clash(0), 0);
        SpareWell bound = Told.land(P.repeat(12) + "bond 11 10;");
        s.due("bound ones", bound.clash(0), 1);
        s.due("the lesser ahead", bound.clash(1), 1011);
        SpareWell work = Told.land(P + P + P + "work 0 0 0 0 2;");
        s.due("one of three may go", work.clash(0), 3);
        s.due("the first", work.clash(1), 1);
        work.go(1);
        s.due("nobody may any more", work.clash(0), 0);
        s.due("only one way round", Told.land("one 0 1 0;one 0 2 0;law gone=0 or strength=2;").clash(0), 0);
        s.due("either way round by the law", Told.land(P + P + "law gone=0;").clash(1), 1);
        s.due("one can't be spared anyhow", Told.land("one 0 1 0;one 0 2 0;bond 0 1;law strength=2;").clash(0), 0);
        s.due("nor the other one", Told.land("one 0 2 0;one 0 1 0;bond 0 1;law strength=2;").clash(0), 0);
        s.due("all of twelve", Told.land(P.repeat(12) + "law gone=0;").clash(0), 66);
    }

    private void lackingWorthShort() {
        says("LACKING in a MONTH of the year: how many PIECES of it are left, if as many as can be are given to all"
                + " PEOPLE.");
        SpareWell well = Told.land("one 0 1 0;one 0 1 0 1;one 1 1 1;work 0 0 2 3 2;work 0 1 3 3 1;work 2 2 0 0 4;");
        s.due("month 0", well.lacking(0), 4);
        s.due("month 1", well.lacking(1), 0);
        s.due("month 2", well.lacking(2), 0);
        s.due("month 3", well.lacking(3), 1);
        well.months(2);
        s.due("whatever month it is", well.lacking(0), 4);
        well.months(2);
        well.go(0);
        s.due("gone or not", well.lacking(2), 0);
        s.due("all that there may be", Told.land("work 0 0 11 11 4;".repeat(14)).lacking(11), 56);
        says(" WORTH of one: THE MOST of this MONTH less THE MOST, were he not there at all (neither at home nor"
                + " gone).");
        s.due("alone", Told.land(P).worth(0), 1);
        SpareWell bound = Told.land(P + P + P + "bond 0 1;bond 1 2;");
        s.due("who is bound to both", bound.worth(1), 0);
        s.due("one of both", bound.worth(0), 1);
        SpareWell work = Told.land("one 0 1 0;one 0 1 1;one 0 1 1;work 0 0 0 0 1;work 0 1 0 0 1;");
        s.due("who must work: none without him", work.worth(0), 2);
        s.due("one of two", work.worth(1), 1);
        work.go(1);
        s.due("gone or not", work.worth(1), 1);
        says(" SHORT of a SKILL in a TOWN in a MONTH: how many PIECES of it more there are than PEOPLE of that TOWN"
                + " who have it");
        SpareWell lack = Told.land("one 0 1 0;one 0 1 0 1;one 1 1 0;work 0 0 5 6 4;work 0 0 6 7 1;work 1 1 0 0 1;");
        s.due("four for two", lack.lack(0, 0, 5), 2);
        s.due("five for two", lack.lack(0, 0, 6), 3);
        s.due("nobody there", lack.lack(1, 1, 0), 1);
        s.due("no month of it", lack.lack(1, 1, 1), 0);
        s.due("all that there may be", Told.land("work 3 7 11 11 4;".repeat(14)).lack(3, 7, 11), 56);
        lack.months(1);
        s.due("one goes", lack.go(0), 1);
        s.due("gone or not", lack.lack(0, 0, 5), 2);
        lack.move(2, 0);
        s.due("of that town now", lack.lack(0, 0, 5), 1);
        says(" (0, if not more).");
        s.due("one for three", lack.lack(0, 0, 7), 0);
        s.due("just as many", Told.land(P + "work 0 0 0 0 1;").lack(0, 0, 0), 0);
        s.due("no pieces", lack.lack(0, 1, 7), 0);
    }

    private void status() {
        says("STATUS: how many calls were refused: 0 of TEXTS with a FAULT, 1 of ACTS, 2 of what is SEEN.");
        SpareWell well = Told.land(P);
        s.due("none yet", well.count(12) + well.count(13) + well.count(14), 0);
        Told.tell(well, ";");
        Told.tell(well, "hero 25;");
        s.due("two texts", well.count(12), 2);
        well.back(0);
        well.go(0);
        well.go(0);
        well.move(0, 0);
        well.months(0);
        well.learn(0, 1, 0);
        s.due("five acts", well.count(13), 5);
        for (int i = 0; i < 9; i++) {
            well.see(0, 0);
        }
        s.due("one sight", well.count(14), 1);
        Told.outcome(() -> well.go(1));
        Told.outcome(() -> well.see(0, 8));
        Told.outcome(() -> well.land(1));
        Told.outcome(() -> well.move(-1, 0));
        s.due("a throw is no refusal", well.count(12) * 100 + well.count(13) * 10 + well.count(14), 251);
        well.undo();
        well.undo();
        s.due("nor is undo", well.count(13), 5);
        well.restore();
        for (int i = 0; i < 36; i++) {
            well.feed(0, 0, 0, 0, 0);
        }
        s.due("nor restore or feed", well.count(12) * 100 + well.count(13) * 10 + well.count(14), 251);
    }
}
