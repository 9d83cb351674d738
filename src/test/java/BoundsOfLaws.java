/** The terms: how a law is worked out. */
final class BoundsOfLaws {
    /** 0: town 0, strength 5, two skills; 1: town 1, strength 0, one skill; 2: town 1, strength 9, all skills. */
    private static final String THREE = "one 0 5 0 1;one 1 0 2;one 1 9 0 1 2 3 4 5 6 7;hero 3;";

    private final Sentences s;

    BoundsOfLaws(Sentences sentences) {
        s = sentences;
    }

    private void says(String words) {
        s.says(Sentences.TERMS, words);
    }

    private void holdsFor(String law, int people) {
        s.due("law " + law, Told.land(THREE + "law " + law + ";").spared(), people);
    }

    private void holds(String... laws) {
        for (String law : laws) {
            holdsFor(law, 7);
        }
    }

    private void fails(String... laws) {
        for (String law : laws) {
            holdsFor(law, 0);
        }
    }

    void all() {
        grammar();
        workings();
        values();
        looksAnew();
    }

    private void grammar() {
        says("LAW: a rule.");
        s.due("without one", Told.land(THREE).spared(), 7);
        fails("0");
        says("EXPR: AND ('or' AND)*.");
        holds("1 or 0 and 0", "0 and 0 or 1", "0 or 0 or 0 or 1");
        fails("0 or 0", "(1 or 0) and 0");
        says(" AND: NOT ('and' NOT)*.");
        holds("1 and 1 and 1", "1 and not 0", "not 0 and 1");
        fails("1 and 1 and 0", "not 0 and 0");
        says(" NOT: 'not' NOT | SUM [('<' | '=') SUM].");
        holds("not 2<1", "not 2=1", "not not 1", "not 0+0", "not 1<0+1");
        fails("not 1<2", "not not 0", "not 1", "2<2", "not 0<1");
        s.faulty("law 1<2=1;", 1, 7);
        says(" SUM: PRODUCT (('+' | '-') PRODUCT)*.");
        holds("1+2*3=7", "2*3+1=7", "9-4-3=2", "9-4+3=8", "1<1+1", "1+1=2");
        fails("9-4-3=8", "9-4+3=2");
        says(" PRODUCT: PART (('*' | '/') PART)*.");
        holds("8/4/2=1", "8/4*2=4", "9*2/4=4", "2*3*4=24");
        fails("8/4/2=4", "8/4*2=1");
        says(" PART: NUMBER | VALUE | '(' EXPR ')'.");
        holds("(1 or 0)+1=2", "(1<2)=1", "((7))=7", "(1+2)*3=9", "9-(4-3)=8", "8/(4/2)=4", "(not 1)=0");
        holdsFor("(town)", 6);
    }

    private void workings() {
        says("From the left;");
        holds("9-4-3=2", "8/2*4=16", "8/2/2=2", "7/2*2=6", "2-3+4=3");
        says(" ints that wrap,");
        holds("2048*2048*512<0", "2048*2048*512-1=0-1+2048*2048*512", "2048*2048*512-1=2047*1024*1024+1023*1024+1023",
                "2048*2048*512+2048*2048*512=0", "0-2048*2048*512=2048*2048*512", "2048*2048*1024=0",
                "9999*9999*9999=0-(1027*1000*1000+349*1000+969)");
        says(" / cut down to 0,");
        holds("7/2=3", "(0-7)/2=0-3", "7/(0-2)=0-3", "(0-7)/(0-2)=3", "1/2=0", "(0-1)/2=0", "9999/9999=1",
                "2048*2048*512/(0-1)=2048*2048*512");
        says(" by 0 gives 0;");
        holds("5/0=0", "0/0=0", "(0-5)/0=0", "2048*2048*512/0=0", "not 5/(3-3)", "5/0+1=1");
        fails("5/0");
        holdsFor("5/strength", 1);
        says(" tests, not, and, or are 1 or 0");
        holds("(1<2)=1", "(2<1)=0", "(5=5)=1", "(5=6)=0", "(not 0)=1", "(not 9)=0", "(5 and 3)=1", "(5 and 0)=0",
                "(0 or 9)=1", "(0 or 0)=0", "(7 or 9)=1", "(1<2)+(3=3)+(not 0)+(2 and 2)+(0 or 2)=5");
        says(" (what isn't 0 holds).");
        holds("1", "9999", "0-1", "2048*2048*512", "not 0", "(0-1) and (0-2)", "0 or 0-1", "not not 0-1");
        fails("0", "1-1", "2048*2048*1024", "not 0-1", "0 or 1-1");
    }

    private void values() {
        says("VALUES of somebody: 'strength',");
        holdsFor("strength", 5);
        holdsFor("strength=9", 4);
        holdsFor("strength=0", 2);
        says(" 'skills' (how many he has),");
        holdsFor("skills=1", 2);
        holdsFor("skills=2", 1);
        holdsFor("skills=8", 4);
        SpareWell learnt = Told.land("one 0 1 0;one 0 1 1;law skills=2;");
        learnt.learn(1, 0, 0);
        s.due("with what he has learnt", learnt.spared(), 2);
        says(" 'gone' (how many are gone, without him),");
        holdsFor("gone=0", 7);
        SpareWell gone = Told.land("one 0 1 0;one 1 1 0;one 0 1 0;law gone=0 or gone=1 and town=0;");
        gone.go(0);
        s.due("one is gone", gone.spared(), 4);
        gone.go(2);
        s.due("two are gone", gone.spared(), 0);
        says(" 'home' (how many are at home in his TOWN, with him),");
        holdsFor("home=1", 1);
        holdsFor("home=2", 6);
        SpareWell home = Told.land("one 0 1 0;one 0 1 0;one 1 1 0;one 0 1 0;law home<3 or town=0 and gone=0;");
        s.due("three, one", home.spared(), 15);
        home.go(0);
        s.due("two, one", home.spared(), 14);
        home.move(2, 0);
        s.due("three of them now", home.spared(), 0);
        says(" 'month' (of the year),");
        SpareWell month = Told.land("one 0 1 0;law month=11 or month=0;");
        s.due("0", month.spared(), 1);
        month.months(1);
        s.due("1", month.spared(), 0);
        month.months(10);
        s.due("11", month.spared(), 1);
        month.months(1);
        s.due("12 is 0 of the year", month.spared(), 1);
        month.months(24);
        s.due("36 is 0 of the year", month.spared(), 1);
        says(" 'hero' (1, if he is one, else 0),");
        holdsFor("hero=0", 7);
        holdsFor("hero", 0);
        SpareWell hero = Told.land("one 0 1 0;one 0 1 0;hero 1;law hero=0;");
        hero.go(0);
        hero.back(0);
        s.due("another one's being a hero counts for nothing", hero.spared(), 2);
        hero.months(1);
        s.due("and then he is none", hero.spared(), 3);
        says(" 'town'.");
        holdsFor("town=1", 6);
        holdsFor("town=0", 1);
        SpareWell moved = Told.land("one 0 1 0;law town=3;");
        moved.move(0, 3);
        s.due("to which he moved", moved.spared(), 1);
    }

    /** What the law said of somebody once counts for nothing later, however many calls lie between. */
    private void looksAnew() {
        says("LAW: a rule.");
        for (int between = 0; between < 40; between++) {
            s.due("first not, then, " + between + " calls between", laterSpared("month", between), 3);
            s.due("first, then not, " + between + " calls between", laterSpared("not month", between), 0);
        }
    }

    private static int laterSpared(String law, int between) {
        SpareWell well = Told.land("one 0 1 0;one 0 1 0;law " + law + ";");
        well.spared();
        well.move(1, 1);
        for (int i = 0; i < between; i++) {
            well.spared();
        }
        well.move(1, 0);
        well.months(1);
        return well.spared();
    }
}
