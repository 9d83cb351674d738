/** Promises 21 to 42, sentence by sentence. */
final class BoundsOfAnswers {
    private static final String NSE = Sentences.NSE;
    private static final String IAE = Sentences.IAE;
    private static final String P = "one 0 1 0;";

    private final Sentences s;

    BoundsOfAnswers(Sentences sentences) {
        s = sentences;
    }

    void all() {
        constants();
        wells();
        piece();
        taught();
        trade();
        see();
        forget();
        secret();
        game();
        year();
        needed();
        free();
        ways();
        doer();
        recalled();
        allMonths();
        school();
        clash();
        lacking();
        worth();
        lack();
        image();
        restore();
        askingChangesNothing();
    }

    private void constants() {
        s.says(Sentences.TERMS, "The constants: `NONE = -1`: There is none.");
        s.due("NONE", SpareWell.NONE, -1);
        s.due("there is none", new SpareWell().fault(), SpareWell.NONE);
    }

    private void wells() {
        s.says(21, "WELLS of one, or of nobody (person NONE).");
        SpareWell well = Told.land(P + "one 0 1 1;work 0 0 0 0 3;");
        s.due("of one", well.wells(0), 1);
        s.due("of another one", well.wells(1), 0);
        s.due("of nobody", well.wells(-1), 2);
        s.due("of nobody, by its name", well.wells(SpareWell.NONE), 2);
        s.due("where nobody is", Told.land("").wells(-1), 0);
        s.says(21, "NoSuchElementException: no such PERSON but NONE.");
        int[] wrong = {-2, 2, Integer.MIN_VALUE, Integer.MAX_VALUE};
        for (int person : wrong) {
            s.throwsOne(NSE, "wells(" + person + ")", () -> well.wells(person));
        }
        s.throwsOne(NSE, "where nobody is", () -> Told.land("").wells(0));
    }

    private void piece() {
        s.says(22, "ONE MORE PIECE.");
        SpareWell well = Told.land("one 0 1 0;one 3 1 7;");
        s.due("the first town and skill", well.piece(0, 0), 1);
        s.due("the last ones", well.piece(3, 7), 1);
        s.due("nobody can", well.piece(3, 0), 3);
        s.due("where nobody is", Told.land("").piece(3, 7), 1);
        s.says(22, "NoSuchElementException: no such TOWN, SKILL.");
        for (int town : Sentences.beside(0, 3)) {
            s.throwsOne(NSE, "town " + town, () -> well.piece(town, 0));
        }
        for (int skill : Sentences.beside(0, 7)) {
            s.throwsOne(NSE, "skill " + skill, () -> well.piece(0, skill));
        }
    }

    private void taught() {
        s.says(23, "ONE MORE TAUGHT.");
        SpareWell well = Told.land("one 0 1 0;one 0 1 7;bond 0 1;work 0 7 0 0 1;");
        s.due("the last skill", well.taught(0, 7), 0);
        s.due("what he has", well.taught(1, 7), 0);
        SpareWell none = Told.land("one 0 1 0;work 0 7 0 0 1;");
        s.due("none, then nobody", none.taught(0, 7), 1);
        s.says(23, "NoSuchElementException: no such PERSON, SKILL.");
        for (int person : Sentences.beside(0, 1)) {
            s.throwsOne(NSE, "person " + person, () -> well.taught(person, 0));
        }
        for (int skill : Sentences.beside(0, 7)) {
            s.throwsOne(NSE, "skill " + skill, () -> well.taught(0, skill));
        }
        s.throwsOne(NSE, "where nobody is", () -> Told.land("").taught(0, 0));
    }

    private void trade() {
        s.says(24, "A TRADE: 100 by the lesser one and the other one;");
        s.due("0 and 1", Told.land("one 0 1 1;one 1 1 0;work 0 0 0 0 1;").trade(), 1);
        s.due("1 and 2", Told.land("one 2 1 1;one 0 1 2;one 1 1 0;work 0 0 0 0 1;").trade(), 102);
        s.due("10 and 11", Told.land("one 1 1 1;".repeat(10) + "one 2 1 0;one 0 1 1;work 0 0 0 0 1;").trade(), 1011);
        s.says(24, " NONE: none.");
        s.due("none", Told.land("one 0 1 1;one 1 1 1;work 0 0 0 0 1;").trade(), -1);
        s.due("nobody is there", Told.land("").trade(), -1);
    }

    private void see() {
        s.says(25, "SEEN: how many are.");
        SpareWell well = Told.land(P + "one 0 1 7;");
        s.due("the first", well.see(0, 7), 1);
        s.due("the same again", well.see(0, 7), 2);
        s.due("another one", well.see(1, 0), 3);
        s.due("no act", well.count(9), 0);
        s.says(25, "NONE (STATUS 2): there are 8.");
        for (int i = 4; i <= 8; i++) {
            s.due("see", well.see(0, 0), i);
        }
        s.due("the ninth", well.see(1, 3), -1);
        s.due("the tenth", well.see(0, 0), -1);
        s.due("status 2", well.count(14), 2);
        s.due("eight stay", well.count(10), 8);
        s.due("which they were", well.secret(0), 3);
        s.says(25, "NoSuchElementException (ahead): no such PERSON, SKILL.");
        for (int person : Sentences.beside(0, 1)) {
            s.throwsOne(NSE, "person " + person, () -> well.see(person, 0));
        }
        for (int skill : Sentences.beside(0, 7)) {
            s.throwsOne(NSE, "skill " + skill, () -> well.see(0, skill));
        }
        s.due("status 2", well.count(14), 2);
    }

    private void forget() {
        s.says(26, "All that is SEEN is forgotten.");
        SpareWell well = Told.land(P);
        well.forget();
        s.due("nothing to forget", well.count(10), 0);
        for (int i = 0; i < 9; i++) {
            well.see(0, 1);
        }
        well.image();
        well.forget();
        s.due("all", well.count(10), 0);
        s.due("no secrets", well.secret(0), 0);
        s.due("nobody for none", well.secret(1), 0);
        s.due("status 2 stays", well.count(14), 1);
        s.due("and anew", well.see(0, 1), 1);
        well.restore();
        s.due("the image has them", well.count(10), 8);
    }

    private void secret() {
        s.says(27, "How many of SEEN are SECRET (what 0), THE FEWEST (1; NONE: none).");
        SpareWell well = Told.land("one 0 1 0;one 0 1 1;one 1 1 2;");
        s.due("none seen", well.secret(0), 0);
        s.due("nobody", well.secret(1), 0);
        well.see(0, 0);
        s.due("no secret", well.secret(0), 0);
        s.due("nobody", well.secret(1), 0);
        well.see(0, 1);
        s.due("one", well.secret(0), 1);
        s.due("1", well.secret(1), 2);
        well.see(0, 2);
        s.due("two", well.secret(0), 2);
        s.due("none", well.secret(1), -1);
        s.says(27, "NoSuchElementException: another what.");
        for (int what : Sentences.beside(0, 1)) {
            s.throwsOne(NSE, "secret(" + what + ")", () -> well.secret(what));
        }
    }

    private void game() {
        s.says(28, "A GAME: how many couples rest (what 0), the first (1; NONE: none).");
        SpareWell well = Told.land("one 0 5 0;one 3 5 0;one 1 5 0;one 1 5 0;one 2 5 0;one 2 5 0;");
        s.due("two", well.game(0, 3, 0), 2);
        s.due("the first", well.game(0, 3, 1), 1);
        s.due("none", well.game(1, 2, 0), 0);
        s.due("no first one", well.game(2, 1, 1), -1);
        s.due("the stronger town", well.game(1, 0, 1), 10);
        s.due("the other way round", well.game(0, 1, 1), 1);
        s.says(28, "NoSuchElementException: no such TOWN, another what.");
        for (int town : Sentences.beside(0, 3)) {
            s.throwsOne(NSE, "town " + town, () -> well.game(town, 0, 0));
            s.throwsOne(NSE, "other " + town, () -> well.game(0, town, 0));
        }
        for (int what : Sentences.beside(0, 1)) {
            s.throwsOne(NSE, "what " + what, () -> well.game(0, 1, what));
        }
        s.says(28, "IllegalArgumentException (behind that): both are one.");
        for (int town = 0; town < 4; town++) {
            int both = town;
            s.throwsOne(IAE, "both " + both, () -> well.game(both, both, 0));
            s.throwsOne(NSE, "what 2, both " + both, () -> well.game(both, both, 2));
        }
        s.throwsOne(NSE, "both 4", () -> well.game(4, 4, 0));
        s.throwsOne(NSE, "both -1", () -> well.game(-1, -1, 1));
    }

    private void year() {
        s.says(29, "A YEAR: how often somebody went (what 0), how many are gone (1), MONTHS (2).");
        SpareWell well = Told.land(P + "work 1 0 4 5 1;hero 0;");
        s.due("went in 0 and 2", well.year(3, 4, 0), 2);
        s.due("back in 3", well.year(3, 4, 1), 0);
        s.due("undone in 4, 5", well.year(3, 12, 2), 2);
        s.due("no months", well.year(3, 0, 0) + well.year(3, 0, 1) + well.year(3, 0, 2), 0);
        s.due("sixty: five times in each year", well.year(3, 60, 0), 25);
        s.says(29, "NoSuchElementException: another what.");
        for (int what : Sentences.beside(0, 2)) {
            s.throwsOne(NSE, "what " + what, () -> well.year(1, 1, what));
        }
        s.says(29, "IllegalArgumentException (behind that): n.");
        for (int n : Sentences.beside(0, 60)) {
            s.throwsOne(IAE, "n " + n, () -> well.year(1, n, 0));
            s.throwsOne(NSE, "n " + n + ", what 3", () -> well.year(1, n, 3));
        }
    }

    private void needed() {
        s.says(30, "NEEDED, as bits.");
        s.due("nobody is there", Told.land("").needed(), 0);
        s.due("the twelfth", Told.land(P.repeat(11) + "one 1 1 0;work 1 0 0 0 1;").needed(), 2048);
        s.due("more than one", Told.land("one 0 1 0;one 0 1 1;work 0 0 0 0 1;work 0 1 0 0 1;").needed(), 3);
        s.due("each alone could be missing", Told.land(P + P + "work 0 0 0 0 1;").needed(), 0);
    }

    private void free() {
        s.says(31, "FREE, as bits.");
        s.due("nobody is there", Told.land("").free(), 0);
        s.due("the twelfth", Told.land("one 0 1 0;".repeat(11) + "one 1 1 0;" + "work 0 0 3 3 4;work 0 0 3 3 4;"
                + "work 0 0 3 3 3;").free(), 2048);
        SpareWell well = Told.land(P + "one 0 1 1;work 0 0 7 7 1;");
        well.go(0);
        well.go(1);
        s.due("whoever is gone", well.free(), 2);
    }

    private void ways() {
        s.says(32, "WAYS.");
        s.due("one of nothing", Told.land("").ways(), 1L);
        s.due("none", Told.land(P + "work 0 1 0 0 1;").ways(), 0L);
        s.due("more than there is room for by hand",
                Told.land(P.repeat(12) + "work 0 0 0 0 4;work 0 0 0 0 4;work 0 0 0 0 3;").ways(), 479001600L);
        s.due("two towns", Told.land("one 0 1 0;one 0 1 0;one 1 1 0;one 1 1 0;one 1 1 0;work 0 0 0 0 1;work 1 0 0 0 2;")
                .ways(), 12L);
    }

    private void doer() {
        s.says(33, "THE DOER; NONE: not all can be given.");
        SpareWell well = Told.land("one 0 1 0;one 0 1 0 1;work 0 1 0 0 1;work 0 0 0 0 1;work 0 0 1 1 3;");
        s.due("the first piece", well.doer(0), 1);
        s.due("the last piece", well.doer(1), 0);
        well.months(1);
        s.due("three pieces for two", well.doer(0), -1);
        s.due("the last of them", well.doer(2), -1);
        s.says(33, "NoSuchElementException: there is no such PIECE in this MONTH.");
        for (int i : Sentences.beside(0, 2)) {
            s.throwsOne(NSE, "doer(" + i + ")", () -> well.doer(i));
        }
        well.months(1);
        s.throwsOne(NSE, "no pieces", () -> well.doer(0));
        s.throwsOne(NSE, "nobody", () -> Told.land("").doer(0));
        SpareWell full = Told.land("work 0 0 0 0 4;".repeat(14));
        s.due("the 56th", full.doer(55), -1);
        s.throwsOne(NSE, "the 57th", () -> full.doer(56));
    }

    private void recalled() {
        s.says(34, "RECALLED, as bits; NONE: none.");
        SpareWell well = Told.land(P.repeat(11) + "one 0 1 1;work 0 1 11 11 1;work 0 0 10 10 4;work 1 0 9 9 1;");
        well.go(11);
        s.due("now", well.recalled(0), 0);
        s.due("the twelfth", well.recalled(11), 2048);
        s.due("who is at home can", well.recalled(10), 0);
        s.due("none", well.recalled(9), -1);
        for (int person = 0; person < 11; person++) {
            well.go(person);
        }
        s.due("four of all", well.recalled(10), 15);
        s.says(34, "IllegalArgumentException: not 0 to 11.");
        for (int months : Sentences.beside(0, 11)) {
            s.throwsOne(IAE, "recalled(" + months + ")", () -> well.recalled(months));
        }
    }

    private void allMonths() {
        s.says(35, "ALL MONTHS.");
        SpareWell well = Told.land(P + "work 0 0 0 0 1;");
        s.due("none", well.allMonths(0), 0);
        s.due("one", well.allMonths(1), 0);
        s.due("two", well.allMonths(2), 1);
        s.due("to the end of the year", well.allMonths(12), 11);
        s.due("one more", well.allMonths(13), 11);
        s.due("two years", well.allMonths(24), 22);
        s.says(35, "IllegalArgumentException: not 0 to 24.");
        for (int many : Sentences.beside(0, 24)) {
            s.throwsOne(IAE, "allMonths(" + many + ")", () -> well.allMonths(many));
        }
    }

    private void school() {
        s.says(36, "SCHOOL: 10 by the one who LEARNS, and the SKILL; NONE: none.");
        s.due("0 learns 7", Told.land("one 0 1 0;one 0 1 7;work 0 7 0 0 2;").school(), 7);
        s.due("11 learns 7", Told.land("one 1 1 1;".repeat(10) + "one 0 1 7;one 0 1 0;work 0 7 0 0 2;").school(), 117);
        s.due("none", Told.land("one 0 1 0;one 0 1 7;work 0 6 0 0 1;").school(), -1);
        s.due("nobody is there", Told.land("").school(), -1);
    }

    private void clash() {
        s.says(37, "A CLASH: how many (what 0), the first (1; NONE: none).");
        SpareWell well = Told.land(P.repeat(4) + "bond 1 3;bond 2 3;");
        s.due("two", well.clash(0), 2);
        s.due("the first", well.clash(1), 103);
        well.go(3);
        s.due("none", well.clash(0), 0);
        s.due("no first one", well.clash(1), -1);
        s.says(37, "NoSuchElementException: another what.");
        for (int what : Sentences.beside(0, 1)) {
            s.throwsOne(NSE, "clash(" + what + ")", () -> well.clash(what));
        }
    }

    private void lacking() {
        s.says(38, "LACKING.");
        SpareWell well = Told.land(P + "work 0 0 11 0 3;");
        s.due("the first month", well.lacking(0), 2);
        s.due("the last month", well.lacking(11), 2);
        s.due("between them", well.lacking(1) + well.lacking(10), 0);
        s.says(38, "IllegalArgumentException: not 0 to 11.");
        for (int month : Sentences.beside(0, 11)) {
            s.throwsOne(IAE, "lacking(" + month + ")", () -> well.lacking(month));
        }
    }

    private void worth() {
        s.says(39, "WORTH.");
        s.due("who does all", Told.land(P + "work 0 0 0 0 1;").worth(0), 1);
        s.due("the twelfth of twelve", Told.land(P.repeat(12)).worth(11), 1);
        s.due("who frees all", Told.land(P.repeat(11) + "one 0 1 1;work 0 1 0 0 1;").worth(11), 12);
        s.due("who can't help", Told.land(P + "work 1 1 0 0 1;").worth(0), 0);
    }

    private void lack() {
        s.says(40, "SHORT.");
        SpareWell well = Told.land("one 3 1 7;work 3 7 11 11 4;work 0 0 0 0 2;");
        s.due("the last of all", well.lack(3, 7, 11), 3);
        s.due("the first of all", well.lack(0, 0, 0), 2);
        s.due("another month", well.lack(3, 7, 0), 0);
        s.due("another town", well.lack(2, 7, 11), 0);
        s.due("another skill", well.lack(3, 6, 11), 0);
        s.says(40, "NoSuchElementException: no such TOWN, SKILL.");
        for (int town : Sentences.beside(0, 3)) {
            s.throwsOne(NSE, "town " + town, () -> well.lack(town, 0, 0));
        }
        for (int skill : Sentences.beside(0, 7)) {
            s.throwsOne(NSE, "skill " + skill, () -> well.lack(0, skill, 0));
        }
        s.says(40, "IllegalArgumentException (behind that): not 0 to 11.");
        for (int month : Sentences.beside(0, 11)) {
            s.throwsOne(IAE, "month " + month, () -> well.lack(0, 0, month));
            s.throwsOne(NSE, "town 4, month " + month, () -> well.lack(4, 0, month));
            s.throwsOne(NSE, "skill -1, month " + month, () -> well.lack(0, -1, month));
        }
    }

    private static SpareWell busy() {
        SpareWell well = Told.land("one 0 1 0;one 0 2 1;one 1 3 2;one 2 9 3;hero 5;");
        well.go(2);
        well.months(3);
        well.back(2);
        well.go(3);
        well.learn(0, 1, 1);
        well.move(1, 3);
        well.see(0, 7);
        return well;
    }

    private void image() {
        s.says(41, "Who is gone, HEROES, SKILLS, TOWNS, the MONTH, ACTS and what is SEEN are kept as an image,");
        SpareWell well = busy();
        String before = BoundsOfCalls.state(well);
        well.image();
        s.due("nothing changes", BoundsOfCalls.state(well), before);
        for (int i = 0; i < 41; i++) {
            well.months(1);
        }
        well.back(3);
        well.go(0);
        well.move(1, 2);
        well.learn(0, 2, 2);
        well.forget();
        s.due("restored", well.restore(), true);
        s.due("all is as it was", BoundsOfCalls.state(well), before);
        s.due("acts", well.count(9), 6);
        s.due("undo the move", well.undo(), 5);
        s.due("his town", well.one(1, 0), 0);
        s.due("undo learning", well.undo(), 4);
        s.due("his skills", well.one(0, 2), 1);
        s.due("undo go", well.undo(), 3);
        s.due("nobody is gone", well.count(5), 0);
        s.due("undo back", well.undo(), 2);
        s.due("2 is", well.count(5), 4);
        s.due("undo months", well.undo(), 1);
        s.due("the month", well.count(4), 0);
        s.due("undo go", well.undo(), 0);
        s.due("no more", well.undo(), -1);
        s.says(41, " in place of another one.");
        well.months(7);
        well.image();
        well.months(1);
        well.image();
        well.months(1);
        well.restore();
        s.due("the later one", well.count(4), 8);
        well.undo();
        well.restore();
        s.due("and again", well.count(4), 8);
        SpareWell fresh = new SpareWell();
        fresh.image();
        s.due("of a new object", fresh.restore(), true);
    }

    private void restore() {
        s.says(42, "They are as the image again: true.");
        SpareWell well = busy();
        well.image();
        String before = BoundsOfCalls.shown(well);
        s.due("at once", well.restore(), true);
        s.due("as before", BoundsOfCalls.shown(well), before);
        for (int i = 0; i < 3; i++) {
            well.undo();
            well.months(24);
            well.see(1, 1);
            s.due("again", well.restore(), true);
            s.due("as before", BoundsOfCalls.shown(well), before);
        }
        well.months(0);
        well.feed(0, 0, 0, 0, 0);
        well.restore();
        s.due("status stays", well.count(13), 1);
        s.due("the tape stays", well.count(11), 20);
        s.due("a fault leaves the image", well.land(20), 1);
        s.due("it is there", well.restore(), true);
        s.due("the fault's place stays", well.fault(), 0);
        s.says(42, "False: there is none.");
        s.due("of a new object", new SpareWell().restore(), false);
        s.due("of a land", Told.land(P).restore(), false);
        s.due("anew", well.land(0), 0);
        s.due("it is gone", well.restore(), false);
        s.due("nothing changes", well.count(4) + well.count(9) + well.count(10), 0);
        well.image();
        s.due("and one anew", well.restore(), true);
    }

    /** What is only asked tries towns, skills and months out, and leaves all as it was. */
    private void askingChangesNothing() {
        s.says(29, "A YEAR");
        SpareWell well = busy();
        well.image();
        well.months(1);
        String before = BoundsOfCalls.shown(well);
        for (int what = 0; what < 2; what++) {
            well.most(what);
            well.strongest(12, 2, what);
            well.secret(what);
            well.game(0, 1, what);
            well.year(5, 60, what);
            well.clash(what);
            well.taught(what, 5);
            well.worth(what);
            well.wells(what);
            well.piece(what, what);
            well.lack(what, what, what);
            well.can(what, what);
            well.last(what);
            well.recalled(what);
            well.allMonths(24);
            well.lacking(what);
        }
        well.orders(7);
        well.never();
        well.trade();
        well.needed();
        well.free();
        well.ways();
        well.school();
        s.due("asking changes nothing", BoundsOfCalls.shown(well), before);
        s.due("nor the image", well.restore(), true);
        s.due("its month", well.count(4), 3);
    }
}
