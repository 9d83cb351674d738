/** The document's second part: who can be gone, who can be spared, acts. */
final class BoundsOfActs {
    private static final String P = "one 0 1 0;";

    private final Sentences s;

    BoundsOfActs(Sentences sentences) {
        s = sentences;
    }

    private void says(String words) {
        s.says(Sentences.TERMS, words);
    }

    void all() {
        atFirst();
        done();
        canBeGone();
        canBeSpared();
        keptActs();
        goAndBack();
        learns();
        movesAndMonths();
        undone();
    }

    private void atFirst() {
        says("All are at home at first, no HEROES.");
        SpareWell well = Told.land(Told.FIVE);
        s.due("who is gone", well.count(5), 0);
        s.due("heroes", well.count(6), 0);
        for (int person = 0; person < 5; person++) {
            s.due("gone " + person, well.one(person, 3), 0);
            s.due("hero " + person, well.one(person, 4), 0);
        }
    }

    private void isDone(String text, boolean done) {
        SpareWell well = Told.land(text);
        s.due(text, well.count(7), done ? 1 : 0);
        s.due("and by nobody gone: " + text, well.can(0, 0), done);
        s.due("pieces left: " + text, well.wells(-1) == 0, done);
        s.due("ways: " + text, well.ways() != 0, done);
    }

    private void done() {
        says("In a MONTH all WORK is DONE by some PEOPLE, if each PIECE of all WORKS of that MONTH of the year can be"
                + " given to one of them who is in its TOWN and has its SKILL,");
        isDone("", true);
        isDone(P, true);
        isDone("work 0 0 0 0 1;", false);
        isDone("work 0 0 1 11 1;", true);
        isDone(P + "work 0 0 0 0 1;", true);
        isDone(P + "work 1 0 0 0 1;", false);
        isDone(P + "work 0 1 0 0 1;", false);
        isDone("one 0 1 0 7;one 3 1 7;work 0 7 11 0 1;work 3 7 0 0 1;", true);
        says(" no two PIECES to one.");
        isDone(P + "work 0 0 0 0 2;", false);
        isDone(P + P + "work 0 0 0 0 2;", true);
        isDone("one 0 1 0 1;work 0 0 0 0 1;work 0 1 0 0 1;", false);
        isDone("one 0 1 0;one 0 1 0;one 0 1 1;work 0 0 0 0 1;work 0 1 0 0 2;", false);
        isDone("one 0 1 0;one 0 1 0 1;one 0 1 1;work 0 0 0 0 1;work 0 1 0 0 2;", true);
        isDone("one 0 1 0 1;one 0 1 0;one 0 1 1 2;work 0 1 0 0 1;work 0 2 0 0 1;work 0 0 0 0 1;", true);
        isDone("one 0 1 0 1 2;one 0 1 2;one 0 1 2;work 0 0 0 0 1;work 0 1 0 0 1;work 0 2 0 0 1;", false);
        isDone(P.repeat(12) + "work 0 0 0 0 4;".repeat(3), true);
        isDone(P.repeat(12) + "work 0 0 0 0 4;".repeat(3) + "work 0 0 0 0 1;", false);
        isDone(P.repeat(11) + "one 1 1 0;" + "work 0 0 0 0 4;".repeat(3), false);
        StringBuilder each = new StringBuilder();
        for (int i = 0; i < 12; i++) {
            each.append("one ").append(i / 8).append(" 1 ").append(i % 8).append(";work ").append(i / 8).append(' ')
                    .append(i % 8).append(" 0 0 1;");
        }
        isDone(each.toString(), true);
        isDone(each.toString().replace("one 0 1 7;", "one 0 1 6;"), false);
        isDone(each.toString().replace("one 1 1 3;", "one 1 1 2;"), false);
        isDone(each.toString().replace("one 0 1 7;", "one 0 1 0;").replace("one 0 1 0;", "one 0 1 0 7;"), true);
        says("(PEOPLE are in the TOWN to which they moved last.)");
        SpareWell well = Told.land(P + "work 2 0 0 0 1;");
        well.move(0, 2);
        s.due("moved there", well.count(7), 1);
        well.move(0, 1);
        s.due("and on", well.count(7), 0);
        well.move(0, 2);
        s.due("and back", well.count(7), 1);
        well.move(0, 2);
        s.due("and stays", well.count(7), 1);
    }

    private void canBeGone() {
        says("A SET of PEOPLE CAN BE GONE in a MONTH, if by all others all WORK is DONE in it,");
        SpareWell well = Told.land("one 0 1 0;one 0 1 0;one 0 1 1;work 0 0 4 4 1;work 0 1 5 5 1;");
        s.due("no work", well.can(7, 3), true);
        s.due("one of two stays", well.can(6, 4), true);
        s.due("not both", well.can(3, 4), false);
        s.due("2 works", well.can(4, 5), false);
        s.due("both others", well.can(3, 5), true);
        s.due("nobody of nobody", Told.land("").can(0, 0), true);
        s.due("not even nobody", Told.land("work 0 0 0 0 1;").can(0, 0), false);
        says(" and no two of the SET are bound.");
        SpareWell bound = Told.land(P.repeat(4) + "bond 0 1;bond 3 2;");
        s.due("one alone", bound.can(1, 0), true);
        s.due("both", bound.can(3, 0), false);
        s.due("both, the other way round", bound.can(12, 0), false);
        s.due("one of each", bound.can(9, 0), true);
        s.due("three", bound.can(11, 0), false);
    }

    private void canBeSpared() {
        says("One CAN BE SPARED, if he is at home,");
        SpareWell well = Told.land(P + P + "hero 1;");
        well.go(0);
        s.due("who is gone can't", well.spared(), 2);
        s.due("and doesn't go", well.go(0), -1);
        says(" is no HERO,");
        well.back(0);
        s.due("a hero can't", well.spared(), 2);
        s.due("and doesn't go", well.go(0), -1);
        says(" those who are gone and he CAN BE GONE in this MONTH,");
        SpareWell gone = Told.land(P + P + "one 0 1 1;work 0 0 0 0 1;bond 1 2;");
        s.due("all", gone.spared(), 7);
        gone.go(0);
        s.due("1 must work now", gone.spared(), 4);
        gone.undo();
        gone.go(2);
        s.due("1 is bound to one who is gone", gone.spared(), 1);
        SpareWell later = Told.land(P + "work 0 0 1 1 1;work 1 1 2 2 1;");
        s.due("only this month counts", later.go(0), 1);
        later.months(1);
        s.due("he stays gone, though he has work", later.count(7), 0);
        s.due("he may come back", later.back(0), 0);
        SpareWell undone = Told.land(P + "work 1 1 0 0 1;");
        s.due("nobody goes where work stays undone", undone.spared(), 0);
        says(" and the LAW holds for him (without one it does).");
        s.due("without", Told.land(P + P).spared(), 3);
        s.due("for one", Told.land("one 0 1 0;one 0 2 0;law strength=2;").spared(), 2);
        s.due("for nobody", Told.land(P + P + "law 0;").spared(), 0);
    }

    private void keptActs() {
        says("ACTS (at most 40 are kept, the latest ones):");
        SpareWell well = Told.land(P);
        for (int i = 1; i <= 40; i++) {
            well.months(1);
            s.due("acts", well.count(9), i);
        }
        well.months(24);
        s.due("the 41st: one falls out", well.count(9), 40);
        s.due("undone", well.undo(), 39);
        s.due("the latest one", well.count(4), 40);
        for (int left = 38; left >= 0; left--) {
            s.due("undone", well.undo(), left);
        }
        s.due("the first one can't be undone", well.count(4), 1);
        s.due("none is left", well.undo(), -1);
        well.months(1);
        s.due("and on", well.count(9), 1);
        everyKindFallsOut();
    }

    private void everyKindFallsOut() {
        SpareWell well = Told.land("one 0 1 0;one 0 1 1;one 1 1 2;hero 3;");
        well.go(2);
        well.back(2);
        well.learn(0, 1, 1);
        well.move(1, 3);
        well.months(2);
        for (int i = 0; i < 40; i++) {
            well.move(0, i % 4);
        }
        for (int i = 39; i >= 0; i--) {
            s.due("undone", well.undo(), i);
        }
        s.due("none is left", well.undo(), -1);
        s.due("what fell out stays: gone", well.count(5), 0);
        s.due("hero", well.one(2, 4), 1);
        s.due("learnt", well.one(0, 2), 3);
        s.due("moved", well.one(1, 0), 3);
        s.due("months", well.count(4), 2);
        s.due("where he was", well.one(0, 0), 0);
    }

    private void goAndBack() {
        says(" one GOES, who CAN BE SPARED;");
        SpareWell well = Told.land(P + P + "work 0 0 0 0 1;hero 2;");
        s.due("goes", well.go(1), 1);
        s.due("the other one can't be spared", well.go(0), -1);
        s.due("nothing has changed", well.count(5), 2);
        says(" one who is gone comes BACK: he is a HERO for so many MONTHS (this one is the first);");
        s.due("who isn't gone", well.back(0), -1);
        s.due("is no hero by that", well.one(0, 4), 0);
        well.months(3);
        s.due("who is gone", well.back(1), 0);
        s.due("the first month", well.one(1, 4), 2);
        well.months(1);
        s.due("the last one", well.one(1, 4), 1);
        s.due("he can't go yet", well.go(1), -1);
        well.months(1);
        s.due("he is none", well.one(1, 4), 0);
        s.due("he goes again", well.go(1), 1);
        s.due("and comes back", well.back(1), 0);
        s.due("a hero anew", well.one(1, 4), 2);
        SpareWell none = Told.land(P + "hero 0;");
        none.go(0);
        none.back(0);
        s.due("a hero for no months", none.count(6), 0);
        s.due("goes at once", none.go(0), 1);
    }

    private void learns() {
        says(" one LEARNS a SKILL from another one who has it (both at home, in one TOWN; who has it already can't);");
        String text = "one 0 1 0;one 0 1 1;one 1 1 2;";
        SpareWell well = Told.land(text);
        s.due("who has it not teaches not", well.learn(0, 2, 1), false);
        s.due("himself", well.learn(0, 0, 0), false);
        s.due("himself, what he has not", well.learn(0, 1, 0), false);
        s.due("in another town", well.learn(0, 2, 2), false);
        s.due("nothing yet", well.one(0, 2), 1);
        s.due("learns", well.learn(0, 1, 1), true);
        s.due("has it", well.one(0, 2), 3);
        s.due("the other one has it still", well.one(1, 2), 2);
        s.due("already", well.learn(0, 1, 1), false);
        well.go(0);
        s.due("who is gone", well.learn(0, 1, 1), false);
        s.due("from one who is gone", well.learn(1, 0, 0), false);
        well.back(0);
        s.due("a hero teaches", well.learn(1, 0, 0), true);
        well.move(2, 0);
        s.due("in one town now", well.learn(0, 2, 2), true);
        s.due("a hero learns", well.one(0, 2), 7);
    }

    private void movesAndMonths() {
        says(" one MOVES to a TOWN (at home; it may be his own);");
        SpareWell well = Told.land(P + P);
        s.due("his own", well.move(0, 0), 0);
        s.due("an act too", well.count(9), 1);
        s.due("another one", well.move(0, 3), 0);
        s.due("from there", well.move(0, 1), 3);
        well.go(1);
        s.due("who is gone", well.move(1, 1), -1);
        s.due("not even his own", well.move(1, 0), -1);
        well.back(1);
        s.due("a hero", well.move(1, 1), 0);
        says(" MONTHS go by (1 to 24; nobody is called back).");
        well.go(0);
        s.due("one", well.months(1), 1);
        s.due("twenty-four", well.months(24), 25);
        s.due("none", well.months(0), -1);
        s.due("twenty-five", well.months(25), -1);
        s.due("fewer than none", well.months(-1), -1);
        s.due("the month stays", well.count(4), 25);
        s.due("gone still", well.count(5), 1);
    }

    private void undone() {
        says("They are UNDONE, the last one first.");
        SpareWell well = Told.land("one 0 1 0;one 0 1 1;hero 2;");
        well.go(0);
        well.months(5);
        well.back(0);
        well.move(0, 0);
        well.learn(0, 1, 1);
        well.move(0, 3);
        s.due("move", well.undo(), 5);
        s.due("his town", well.one(0, 0), 0);
        s.due("learn", well.undo(), 4);
        s.due("his skills", well.one(0, 2), 1);
        s.due("move to his own", well.undo(), 3);
        s.due("his town", well.one(0, 0), 0);
        s.due("back", well.undo(), 2);
        s.due("gone again", well.count(5), 1);
        s.due("no hero", well.count(6), 0);
        s.due("months", well.undo(), 1);
        s.due("the month", well.count(4), 0);
        s.due("go", well.undo(), 0);
        s.due("at home", well.count(5), 0);
        s.due("he can go", well.spared(), 3);
    }
}
