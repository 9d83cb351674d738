/** Each promise of the document by hand: ordinary inputs, the edges it names, wrong inputs. */
public final class PromisesTest {
    private static final Check CHECK = new Check("PromisesTest");
    private static final String NSE = "NoSuchElementException";
    private static final String IAE = "IllegalArgumentException";
    private static final int LOW = Integer.MIN_VALUE;
    private static final int HIGH = Integer.MAX_VALUE;

    private static void due(String what, Object got, Object due) {
        CHECK.same(what, got, due);
    }

    public static void main(String[] args) {
        newObject();
        feedAndLand();
        counts();
        people();
        works();
        sparing();
        lawValues();
        lawWorkings();
        goAndBack();
        learnAndMove();
        monthsAndUndo();
        keptActs();
        canAndMost();
        strongest();
        neverFreeLast();
        orders();
        wells();
        pieceAndTaught();
        trade();
        seen();
        games();
        years();
        neededWaysDoer();
        recalledAndAllMonths();
        school();
        clash();
        lackingWorthLack();
        images();
        CHECK.end();
    }

    // promise 1
    private static void newObject() {
        SpareWell well = new SpareWell();
        int[] due = {0, 0, 0, 12, 0, 0, 0, 1, 0, 0, 0, 0, 0, 0, 0, 0, 0};
        for (int what = 0; what < due.length; what++) {
            due("new: count " + what, well.count(what), due[what]);
        }
        due("new: fault", well.fault(), -1);
        due("new: one", Told.outcome(() -> well.one(0, 0)), NSE);
        due("new: work", Told.outcome(() -> well.work(0, 0)), NSE);
        due("new: go", Told.outcome(() -> well.go(0)), NSE);
        due("new: worth", Told.outcome(() -> well.worth(0)), NSE);
        due("new: can(0, 11)", well.can(0, 11), true);
        due("new: can(1, 0)", Told.outcome(() -> well.can(1, 0)), IAE);
        due("new: strongest(12, 0, 0)", well.strongest(12, 0, 0), 0);
        due("new: strongest(1, 1, 0)", well.strongest(1, 1, 0), -1);
        due("new: secret(0)", well.secret(0), 0);
        due("new: year", well.year(77, 60, 2), 0);
        due("new: clash(1)", well.clash(1), -1);
        due("new: lacking", well.lacking(11), 0);
    }

    // promises 2, 3, 4
    private static void feedAndLand() {
        SpareWell well = new SpareWell();
        for (int i = 1; i <= 35; i++) {
            due("feed " + i, well.feed(0x6c617720, 0x313b2020, 0x20202020, 0x20202020, 0x20202020), 20 * i);
        }
        due("the 36th feed", well.feed(1, 2, 3, 4, 5), -1);
        due("tape", well.count(11), 700);
        due("land(701)", Told.outcome(() -> well.land(701)), IAE);
        due("land(-1)", Told.outcome(() -> well.land(-1)), IAE);
        due("land(low)", Told.outcome(() -> well.land(LOW)), IAE);
        due("tape stays", well.count(11), 700);
        due("no status", well.count(12), 0);
        due("land(700): a second law", well.land(700), 5);
        due("its place", well.fault(), 20);
        due("tape is empty", well.count(11), 0);
        due("status", well.count(12), 1);
        due("land(1)", Told.outcome(() -> well.land(1)), IAE);
        due("the place stays", well.fault(), 20);
        well.feed(0x6f6e6520, 0x30203120, 0x303b6f6e, 0x65203120, 0x3220333b);
        due("land(10) of 20", well.land(10), 0);
        due("people", well.count(0), 1);
        due("the rest is gone", well.count(11), 0);
        due("no fault", well.fault(), -1);
        well.feed(0x6f6e6520, 0x30203120, 0x303b6f6e, 0x65203120, 0x3220333b);
        due("land(20)", well.land(20), 0);
        due("people", well.count(0), 2);
        well.feed(0x6865726f, 0x203b2080, 0xff000000, 0, 0);
        due("bytes over 127", well.land(9), 1);
        due("place of ;", well.fault(), 5);
        landsAnew();
    }

    private static void landsAnew() {
        SpareWell well = Told.land(Told.FIVE);
        well.go(2);
        well.back(2);
        well.months(24);
        well.see(1, 0);
        well.image();
        well.go(1);
        due("anew", Told.tell(well, "one 3 1 7;"), 0);
        int[] due = {1, 0, 0, 12, 0, 0, 0, 1, 0, 0, 0, 0, 0, 1, 0, 0, 0};
        for (int what = 0; what < due.length; what++) {
            due("anew: count " + what, well.count(what), due[what]);
        }
        due("anew: hero", well.one(0, 4), 0);
        due("anew: bonds", well.one(0, 5), 0);
        due("anew: no image", well.restore(), false);
        due("anew: no law", well.spared(), 1);
        due("anew: undo", well.undo(), -1);
    }

    // promise 5
    private static void counts() {
        SpareWell well = Told.land("one 0 1 0;one 1 2 1;work 0 0 2 3 2;work 1 1 3 4 1;work 1 1 11 1 3;"
                + "bond 1 0;hero 3;");
        int[] due = {2, 3, 1, 3, 0, 0, 0, 0, 3, 0, 0, 0, 0, 0, 0, 3, 0};
        for (int what = 0; what < due.length; what++) {
            due("count " + what, well.count(what), due[what]);
        }
        due("count(-1)", Told.outcome(() -> well.count(-1)), NSE);
        due("count(17)", Told.outcome(() -> well.count(17)), NSE);
        due("count(high)", Told.outcome(() -> well.count(HIGH)), NSE);
        well.months(17);
        due("count(4)", well.count(4), 17);
        due("count(8) in month 5", well.count(8), 0);
        due("count(7) in month 5", well.count(7), 1);
        due("go", well.go(1), 1);
        due("count(5)", well.count(5), 2);
        well.back(1);
        due("count(6)", well.count(6), 2);
        well.months(2);
        due("count(6) in his last month", well.count(6), 2);
        well.months(1);
        due("count(6) then", well.count(6), 0);
        well.undo();
        well.undo();
        due("count(9)", well.count(9), 3);
        well.feed(0, 0, 0, 0, 0);
        due("count(11)", well.count(11), 20);
        well.see(0, 7);
        due("count(10)", well.count(10), 1);
        SpareWell later = Told.land("work 0 0 4 4 2;work 0 1 7 7 2;work 0 2 3 3 1;");
        due("the fullest", later.count(15), 2);
        due("the first fullest month", later.count(16), 4);
    }

    // promise 6
    private static void people() {
        SpareWell well = Told.land("one 3 9 7 0;one 0 0 1;one 2 4 2;bond 0 1;bond 2 0;hero 5;");
        due("town", well.one(0, 0), 3);
        due("strength", well.one(0, 1), 9);
        due("skills", well.one(0, 2), 129);
        due("gone", well.one(0, 3), 0);
        due("hero", well.one(0, 4), 0);
        due("bound", well.one(0, 5), 6);
        due("bound of 1", well.one(1, 5), 1);
        due("bound of 2", well.one(2, 5), 1);
        well.go(0);
        due("gone then", well.one(0, 3), 1);
        due("no hero while gone", well.one(0, 4), 0);
        well.months(1);
        well.back(0);
        due("hero then", well.one(0, 4), 5);
        well.months(4);
        due("the last month", well.one(0, 4), 1);
        well.months(1);
        due("no hero", well.one(0, 4), 0);
        due("one(3, 0)", Told.outcome(() -> well.one(3, 0)), NSE);
        due("one(-1, 0)", Told.outcome(() -> well.one(-1, 0)), NSE);
        due("one(0, 6)", Told.outcome(() -> well.one(0, 6)), NSE);
        due("one(0, -1)", Told.outcome(() -> well.one(0, -1)), NSE);
    }

    // promise 7
    private static void works() {
        SpareWell well = Told.land("work 3 7 11 1 4;work 0 0 5 5 1;work 1 2 0 11 2;");
        int[][] due = {{3, 7, 11, 1, 4, 1}, {0, 0, 5, 5, 1, 0}, {1, 2, 0, 11, 2, 1}};
        for (int work = 0; work < 3; work++) {
            for (int what = 0; what < 6; what++) {
                due("work(" + work + ", " + what + ")", well.work(work, what), due[work][what]);
            }
        }
        int[] first = {1, 1, 0, 0, 0, 0, 0, 0, 0, 0, 0, 1, 1};
        int[] second = {0, 0, 0, 0, 0, 1, 0, 0, 0, 0, 0, 0, 0};
        for (int month = 0; month < 13; month++) {
            due("over the year, month " + month, well.work(0, 5), first[month]);
            due("one month, month " + month, well.work(1, 5), second[month]);
            well.months(1);
        }
        due("work(3, 0)", Told.outcome(() -> well.work(3, 0)), NSE);
        due("work(-1, 0)", Told.outcome(() -> well.work(-1, 0)), NSE);
        due("work(0, 6)", Told.outcome(() -> well.work(0, 6)), NSE);
        due("work(0, -1)", Told.outcome(() -> well.work(0, -1)), NSE);
    }

    // promise 8
    private static void sparing() {
        SpareWell well = Told.land(Told.FIVE);
        due("spared: 0 works, 1 is weak", well.spared(), 28);
        well.go(2);
        due("spared: 3 is bound", well.spared(), 16);
        well.go(4);
        due("spared: 3 works", well.spared(), 0);
        well.months(3);
        due("spared: month 3", well.spared(), 0);
        SpareWell hero = Told.land("one 0 1 0;hero 1;");
        due("spared", hero.spared(), 1);
        hero.go(0);
        due("gone", hero.spared(), 0);
        hero.back(0);
        due("a hero", hero.spared(), 0);
        hero.months(1);
        due("no hero any more", hero.spared(), 1);
        SpareWell none = Told.land("one 0 1 0;one 0 1 0;hero 0;");
        none.go(0);
        none.back(0);
        due("hero 0", none.spared(), 3);
        SpareWell undone = Told.land("one 0 1 0;one 0 1 0;work 0 1 0 0 1;");
        due("work that nobody can do", undone.spared(), 0);
        undone.months(1);
        due("no work", undone.spared(), 3);
    }

    private static int lawSpares(String law) {
        // 0: town 0, strength 5, two skills; 1: town 1, strength 0, one skill; 2: town 1, strength 9, three
        return Told.land("one 0 5 0 1;one 1 0 2;one 1 9 0 4 7;hero 3;law " + law + ";").spared();
    }

    private static void lawValues() {
        due("strength", lawSpares("strength"), 5);
        due("strength=9", lawSpares("strength=9"), 4);
        due("skills=1", lawSpares("skills=1"), 2);
        due("gone", lawSpares("gone"), 0);
        due("gone=0", lawSpares("gone=0"), 7);
        due("home=2", lawSpares("home=2"), 6);
        due("month", lawSpares("month"), 0);
        due("hero=0", lawSpares("hero=0"), 7);
        due("town=1", lawSpares("town=1"), 6);
        SpareWell well = Told.land("one 0 5 0;one 0 6 1;one 1 7 1;law gone=1 and home=1 or month=2 and gone<1;");
        due("gone and home at first", well.spared(), 0);
        well.months(14);
        due("month of the year", well.spared(), 7);
        well.go(0);
        due("one is gone: home is 1 for both", well.spared(), 6);
        well.go(2);
        due("two are gone", well.spared(), 0);
        SpareWell moved = Told.land("one 0 5 0;one 1 6 1;law town=3 or skills=2;");
        moved.move(0, 3);
        due("town is the latest one", moved.spared(), 1);
        moved.move(1, 2);
        moved.move(0, 2);
        due("no town 3", moved.spared(), 0);
        moved.learn(1, 0, 0);
        due("skills that were learnt", moved.spared(), 2);
    }

    private static void lawWorkings() {
        String[] all = {"1", "7", "not 0", "not not 5", "2*3=6", "7/2=3", "(0-7)/2=0-3", "5/0=0", "1+2*3=7",
            "(1+2)*3=9", "8-3-2=3", "8/2/2=2", "8/2*4=16", "3<4", "not 4<4", "0-1<0", "(5 and 3)=1",
            "(0 or 9)=1", "(not 0)=1", "(4<9)+(4=4)=2", "1 or 0 and 0", "not 0 and 1", "not (1 and 0)",
            "9999*9999*9999<0", "9999*9999*9999*9999*0=0", "not 0=1", "0-9999", "not strength<0",
            "(0-9999*9999*21-9999*4845-7303)/(0-1)<0", "((((2))))=2", "1 = 1", "town+2=2 or 1"};
        for (String law : all) {
            due("law " + law, lawSpares(law), 7);
        }
        String deep = "0 or 1 and 0<0+1*strength";
        for (int i = 0; i < 5; i++) {
            deep = "0 or 1 and 0<0+1*(" + deep + ")";
        }
        due("as deep as can be", lawSpares(deep), 5);
        String[] nobody = {"0", "not 1", "not not 0", "5/0", "3=4", "4<4", "1 and 0", "0 or 0", "2*3=5",
            "not 1 or 0", "0 and 1 or 0", "7/2-3", "(5 or 3)=5", "(not 0)=2", "not 7"};
        for (String law : nobody) {
            due("law " + law, lawSpares(law), 0);
        }
    }

    // promises 9, 10
    private static void goAndBack() {
        SpareWell well = Told.land(Told.FIVE);
        due("go(0) works", well.go(0), -1);
        due("go(1) is weak", well.go(1), -1);
        due("go(2)", well.go(2), 1);
        due("go(2) again", well.go(2), -1);
        due("go(3) is bound", well.go(3), -1);
        due("go(4)", well.go(4), 2);
        due("refused", well.count(13), 4);
        due("acts", well.count(9), 2);
        due("back(3)", well.back(3), -1);
        due("back(4)", well.back(4), 1);
        due("a hero can't go", well.go(4), -1);
        due("back(4) again", well.back(4), -1);
        due("refused then", well.count(13), 7);
        due("hero months", well.one(4, 4), 2);
        well.months(2);
        due("go(4) again", well.go(4), 2);
        due("go(5)", Told.outcome(() -> well.go(5)), NSE);
        due("go(-1)", Told.outcome(() -> well.go(-1)), NSE);
        due("back(5)", Told.outcome(() -> well.back(5)), NSE);
        due("back(-1)", Told.outcome(() -> well.back(-1)), NSE);
        due("no refusal by a throw", well.count(13), 7);
    }

    // promises 11, 12
    private static void learnAndMove() {
        SpareWell well = Told.land("one 0 1 0;one 0 1 1;one 1 1 2;");
        due("learn", well.learn(0, 1, 1), true);
        due("skills", well.one(0, 2), 3);
        due("who has it", well.learn(0, 1, 1), false);
        due("another town", well.learn(0, 2, 2), false);
        due("who hasn't it", well.learn(0, 5, 1), false);
        due("of oneself", well.learn(0, 0, 0), false);
        due("refused", well.count(13), 4);
        due("no skill 8", Told.outcome(() -> well.learn(0, 8, 1)), NSE);
        due("no skill -1", Told.outcome(() -> well.learn(0, -1, 1)), NSE);
        due("nobody", Told.outcome(() -> well.learn(3, 1, 1)), NSE);
        due("nobody", Told.outcome(() -> well.learn(-1, 1, 1)), NSE);
        due("of nobody", Told.outcome(() -> well.learn(0, 1, 3)), NSE);
        due("of nobody", Told.outcome(() -> well.learn(0, 1, -1)), NSE);
        due("refused still", well.count(13), 4);
        due("move", well.move(2, 0), 1);
        due("town", well.one(2, 0), 0);
        due("his own", well.move(2, 0), 0);
        due("acts", well.count(9), 3);
        due("learn here", well.learn(0, 2, 2), true);
        due("no town 4", well.move(0, 4), -1);
        due("no town -1", well.move(0, -1), -1);
        due("refused", well.count(13), 6);
        well.go(1);
        due("who is gone moves", well.move(1, 2), -1);
        due("who is gone learns", well.learn(1, 0, 0), false);
        due("of one who is gone", well.learn(2, 1, 1), false);
        due("refused", well.count(13), 9);
        due("nobody moves", Told.outcome(() -> well.move(3, 4)), NSE);
        due("nobody moves", Told.outcome(() -> well.move(-1, 0)), NSE);
    }

    // promises 13, 14
    private static void monthsAndUndo() {
        SpareWell well = Told.land(Told.FIVE);
        due("months(0)", well.months(0), -1);
        due("months(25)", well.months(25), -1);
        due("months(-1)", well.months(-1), -1);
        due("months(low)", well.months(LOW), -1);
        due("refused", well.count(13), 4);
        due("months(24)", well.months(24), 24);
        due("months(1)", well.months(1), 25);
        due("undo", well.undo(), 1);
        due("month", well.count(4), 24);
        due("undo", well.undo(), 0);
        due("month", well.count(4), 0);
        due("undo", well.undo(), -1);
        due("no status", well.count(13), 4);
        well.go(4);
        well.back(4);
        well.months(1);
        well.learn(1, 0, 0);
        well.move(1, 3);
        well.months(1);
        well.go(4);
        due("gone", well.count(5), 16);
        due("undo go", well.undo(), 6);
        due("gone", well.count(5), 0);
        well.undo();
        due("undo months", well.one(4, 4), 1);
        due("undo move", well.undo(), 4);
        due("town", well.one(1, 0), 0);
        due("undo learn", well.undo(), 3);
        due("skills", well.one(1, 2), 2);
        well.undo();
        due("hero again", well.one(4, 4), 2);
        due("undo back", well.undo(), 1);
        due("gone again", well.one(4, 3), 1);
        due("no hero", well.one(4, 4), 0);
        due("undo go", well.undo(), 0);
        due("nobody is gone", well.count(5), 0);
        undoKeepsAnOldHero();
    }

    private static void undoKeepsAnOldHero() {
        SpareWell well = Told.land("one 0 1 0;hero 2;");
        well.go(0);
        well.back(0);
        well.months(3);
        well.go(0);
        well.back(0);
        well.undo();
        well.undo();
        well.undo();
        due("the old hero", well.one(0, 4), 2);
        due("months", well.months(1), 1);
        due("the old hero later", well.one(0, 4), 1);
    }

    private static void keptActs() {
        SpareWell well = Told.land("one 0 1 0;");
        for (int i = 1; i <= 45; i++) {
            well.months(i <= 5 ? 2 : 1);
        }
        due("acts that are kept", well.count(9), 40);
        due("month", well.count(4), 50);
        for (int i = 39; i >= 0; i--) {
            due("undo", well.undo(), i);
        }
        due("none is left", well.undo(), -1);
        due("the first five stay", well.count(4), 10);
        SpareWell mixed = Told.land("one 0 1 0;one 1 1 1;one 2 1 2;hero 0;");
        mixed.months(1);
        mixed.go(2);
        mixed.move(0, 1);
        mixed.learn(0, 1, 1);
        for (int i = 0; i < 19; i++) {
            mixed.go(i % 2);
            mixed.back(i % 2);
        }
        due("42 acts, two fell out", mixed.count(9), 40);
        for (int i = 0; i < 38; i++) {
            mixed.undo();
            due("who is gone, undone " + i, mixed.count(5), i % 2 == 1 ? 4 : 4 | 1 << (18 - i / 2) % 2);
        }
        due("he has learnt", mixed.one(0, 2), 3);
        due("undo learn", mixed.undo(), 1);
        due("he hasn't", mixed.one(0, 2), 1);
        due("undo move", mixed.undo(), 0);
        due("he is where he was", mixed.one(0, 0), 0);
        due("no more", mixed.undo(), -1);
        due("gone still", mixed.count(5), 4);
        due("month still", mixed.count(4), 1);
    }

    // promises 15, 16
    private static void canAndMost() {
        SpareWell well = Told.land(Told.FIVE);
        due("bound ones", well.can(12, 6), false);
        due("nobody", well.can(0, 0), true);
        due("3 and 4 in winter", well.can(24, 10), false);
        due("3 and 4 in summer", well.can(24, 9), true);
        due("1 in month 3", well.can(2, 3), false);
        due("1 in month 6", well.can(2, 6), true);
        due("who isn't there", Told.outcome(() -> well.can(32, 0)), IAE);
        due("bits below 0", Told.outcome(() -> well.can(LOW, 0)), IAE);
        due("month 12", Told.outcome(() -> well.can(0, 12)), IAE);
        due("month -1", Told.outcome(() -> well.can(0, -1)), IAE);
        well.go(4);
        due("whoever is gone", well.can(8, 0), true);
        due("most", well.most(0), 3);
        due("strongest", well.most(1), 22);
        due("together", well.most(2), 19);
        due("most(3)", Told.outcome(() -> well.most(3)), NSE);
        due("most(-1)", Told.outcome(() -> well.most(-1)), NSE);
        SpareWell undone = Told.land("one 0 1 0;work 1 0 0 0 1;");
        for (int what = 0; what < 3; what++) {
            due("none: most(" + what + ")", undone.most(what), -1);
        }
        SpareWell like = Told.land("one 0 4 0;one 0 4 0;one 0 0 1;one 0 8 0;bond 0 3;bond 1 3;bond 0 1;");
        due("like ones: the least", like.most(1), 8);
        due("strength 0 needn't go", like.most(2), 8);
        due("the most", like.most(0), 2);
        SpareWell both = Told.land("one 0 4 0;one 0 4 0;one 0 8 0;bond 0 2;bond 1 2;");
        due("4 and 4, or 8: the least", both.most(1), 3);
    }

    // promise 17
    private static void strongest() {
        SpareWell well = Told.land(Told.FIVE);
        due("two now", well.strongest(1, 2, 0), 20);
        due("their strength", well.strongest(1, 2, 1), 16);
        due("two for three months", well.strongest(3, 2, 0), 20);
        due("three for three", well.strongest(3, 3, 0), 22);
        due("three for four", well.strongest(4, 3, 0), -1);
        due("three for four: together", well.strongest(4, 3, 1), -1);
        due("nobody", well.strongest(12, 0, 0), 0);
        due("nobody together", well.strongest(12, 0, 1), 0);
        due("more than there are", well.strongest(1, 6, 0), -1);
        due("twelve", well.strongest(1, 12, 0), -1);
        well.months(6);
        due("from month 6, four months", well.strongest(4, 3, 0), 22);
        due("another what ahead", Told.outcome(() -> well.strongest(0, 13, 2)), NSE);
        due("another what", Told.outcome(() -> well.strongest(1, 1, -1)), NSE);
        due("0 months", Told.outcome(() -> well.strongest(0, 1, 0)), IAE);
        due("13 months", Told.outcome(() -> well.strongest(13, 1, 0)), IAE);
        due("-1 people", Told.outcome(() -> well.strongest(1, -1, 0)), IAE);
        due("13 people", Told.outcome(() -> well.strongest(1, 13, 0)), IAE);
        SpareWell undone = Told.land("work 0 0 3 3 1;");
        due("nobody for three months", undone.strongest(3, 0, 0), 0);
        due("nobody for four", undone.strongest(4, 0, 0), -1);
    }

    // promises 18, 19, 31
    private static void neverFreeLast() {
        SpareWell well = Told.land(Told.FIVE);
        due("never", well.never(), 1);
        due("free", well.free(), 28);
        due("last(0)", well.last(0), 24);
        due("last(1)", well.last(1), 24);
        due("last(2)", well.last(2), 24);
        due("last(3)", well.last(3), 3);
        due("last(4)", well.last(4), 0);
        due("last(12)", well.last(12), 0);
        well.months(2);
        due("last(3) from month 2", well.last(3), 1);
        well.months(4);
        due("last(3) from month 6", well.last(3), 9);
        due("last(-1)", Told.outcome(() -> well.last(-1)), IAE);
        due("last(13)", Told.outcome(() -> well.last(13)), IAE);
        SpareWell undone = Told.land("one 0 1 0;work 0 1 2 0 1;");
        due("never but in month 1", undone.never(), 0);
        due("free", undone.free(), 0);
        due("not even nobody", undone.last(0), 0);
        undone.months(1);
        due("one month", undone.last(1), 1);
        SpareWell always = Told.land("one 0 1 0;one 0 1 1;work 0 1 0 11 1;work 0 0 4 4 1;");
        due("never", always.never(), 2);
        due("free", always.free(), 0);
        always.learn(0, 1, 1);
        due("never, taught", always.never(), 0);
    }

    // promise 20
    private static void orders() {
        SpareWell well = Told.land(Told.FIVE);
        due("nobody", well.orders(0), 1);
        due("2 and 4", well.orders(20), 2);
        due("bound ones", well.orders(12), 0);
        due("who is weak", well.orders(2), 0);
        well.go(2);
        due("who is gone", Told.outcome(() -> well.orders(4)), IAE);
        due("who isn't there", Told.outcome(() -> well.orders(32)), IAE);
        due("below 0", Told.outcome(() -> well.orders(-1)), IAE);
        due("3 is bound to 2", well.orders(8), 0);
        well.back(2);
        due("a hero", well.orders(4), 0);
        SpareWell law = Told.land("one 0 1 0;one 0 2 0;one 0 3 0;law strength-1=gone or strength=3;");
        due("by the law: 0, then 1, the strong one at the end", law.orders(7), 1);
        due("0 ahead of 1", law.orders(3), 1);
        due("1 isn't first", law.orders(2), 0);
        SpareWell home = Told.land("one 0 1 0;one 0 2 0;one 1 3 0;law home=2 or strength=2;");
        due("0 ahead of 1", home.orders(3), 1);
        due("2 is alone at home", home.orders(4), 0);
        SpareWell twelve = Told.land("one 0 1 0;".repeat(12));
        due("twelve", twelve.orders(4095), 479001600);
        due("eleven", twelve.orders(4094), 39916800);
        StringBuilder row = new StringBuilder();
        for (int i = 0; i < 12; i++) {
            row.append("one 0 ").append(Math.min(i, 9)).append(" 0;");
        }
        due("by strength, then three in any order",
                Told.land(row + "law gone=strength or 9<gone and home<3;").orders(4095), 6);
        due("the last one stays", Told.land(row + "law 1<home and gone<12;").orders(4095), 0);
        due("all but one", Told.land(row + "law 1<home and gone<12;").orders(2047), 39916800);
    }

    // promise 21
    private static void wells() {
        SpareWell well = Told.land("one 0 1 0;one 0 1 0 1;one 0 1 1;one 1 1 0;work 0 0 0 0 2;work 0 1 0 0 2;"
                + "work 0 0 5 5 1;");
        due("left", well.wells(-1), 1);
        due("of 0", well.wells(0), 1);
        due("of 2", well.wells(2), 1);
        due("of 3", well.wells(3), 0);
        due("wells(4)", Told.outcome(() -> well.wells(4)), NSE);
        due("wells(-2)", Told.outcome(() -> well.wells(-2)), NSE);
        well.months(5);
        due("left in month 5", well.wells(-1), 0);
        due("two can do it", well.wells(0), 0);
        well.go(1);
        due("one can", well.wells(0), 1);
        due("who is gone", well.wells(1), 0);
        SpareWell much = Told.land("one 0 1 0 1 2 3 4 5 6 7;" + "work 0 0 0 0 4;work 0 1 0 0 4;".repeat(7));
        due("56 pieces", much.count(8), 56);
        due("55 are left", much.wells(-1), 55);
        due("he does one", much.wells(0), 1);
        due("nobody can go", much.spared(), 0);
        due("no ways", much.ways(), 0);
        due("no doer", much.doer(55), -1);
    }

    // promises 22, 23
    private static void pieceAndTaught() {
        SpareWell well = Told.land(Told.FIVE);
        due("only 0 has it", well.piece(0, 0), 4);
        due("1 could do it", well.piece(0, 1), 1);
        due("nobody there", well.piece(3, 0), 4);
        due("piece(4, 0)", Told.outcome(() -> well.piece(4, 0)), NSE);
        due("piece(-1, 0)", Told.outcome(() -> well.piece(-1, 0)), NSE);
        due("piece(0, 8)", Told.outcome(() -> well.piece(0, 8)), NSE);
        due("piece(0, -1)", Told.outcome(() -> well.piece(0, -1)), NSE);
        SpareWell free = Told.land("one 0 1 0;one 0 1 0;bond 0 1;work 0 0 3 3 4;");
        due("one stays anyhow", free.piece(0, 0), 0);
        free.months(3);
        due("none before, none then", free.piece(0, 0), 0);
        due("taught what doesn't help", free.taught(0, 1), 0);
        SpareWell taught = Told.land("one 0 1 0;one 0 1 1;one 0 1 1;work 0 0 0 0 2;");
        due("none, then one", taught.taught(1, 0), 2);
        due("has it", taught.taught(0, 0), 0);
        taught.months(1);
        due("no work", taught.taught(1, 0), 0);
        due("the skill isn't kept", taught.one(1, 2), 2);
        SpareWell bound = Told.land("one 0 1 0;one 0 1 1;one 0 1 1;bond 1 2;work 0 0 0 0 1;");
        due("the bound one does it", bound.taught(1, 0), 1);
        due("taught(3, 0)", Told.outcome(() -> bound.taught(3, 0)), NSE);
        due("taught(-1, 0)", Told.outcome(() -> bound.taught(-1, 0)), NSE);
        due("taught(0, 8)", Told.outcome(() -> bound.taught(0, 8)), NSE);
        due("taught(0, -1)", Told.outcome(() -> bound.taught(0, -1)), NSE);
    }

    // promise 24
    private static void trade() {
        due("nothing better", Told.land(Told.FIVE).trade(), -1);
        SpareWell well = Told.land("one 0 1 1;one 0 1 1;one 1 1 0;one 1 1 0;work 0 0 0 0 1;");
        due("the first couple of like ones", well.trade(), 2);
        due("towns stay", well.one(0, 0), 0);
        due("most is none still", well.most(0), -1);
        SpareWell better = Told.land("one 0 1 1;one 0 1 2;one 1 1 0;one 1 1 0 2;"
                + "work 0 0 0 0 1;work 0 1 0 0 1;work 1 2 0 0 1;");
        due("only 1 with one who can", better.trade(), 102);
        SpareWell same = Told.land("one 2 1 1;one 2 1 0;work 1 0 0 0 1;");
        due("all in one town", same.trade(), -1);
    }

    // promises 25, 26, 27
    private static void seen() {
        SpareWell well = Told.land("one 0 1 0;one 0 1 1;one 0 1 0 1;one 1 1 2;one 0 1 2;");
        due("no secrets", well.secret(1), 0);
        due("see", well.see(0, 0), 1);
        due("what he has", well.secret(0), 0);
        due("fewest", well.secret(1), 0);
        due("see", well.see(0, 1), 2);
        due("a secret", well.secret(0), 1);
        due("1 or 2: the least", well.secret(1), 2);
        due("see", well.see(1, 0), 3);
        due("2 is a teacher of both", well.secret(1), 4);
        due("see", well.see(1, 2), 4);
        due("and 4", well.secret(1), 20);
        due("see", well.see(3, 0), 5);
        due("nobody of his town", well.secret(1), -1);
        due("see", well.see(3, 0), 6);
        due("each counts", well.secret(0), 5);
        well.move(3, 0);
        due("of his town now, and a teacher too", well.secret(1), 12);
        well.learn(3, 0, 0);
        due("no secret any more", well.secret(0), 3);
        well.see(4, 7);
        due("the eighth", well.see(4, 2), 8);
        due("the ninth", well.see(4, 2), -1);
        due("refused", well.count(14), 1);
        due("seen", well.count(10), 8);
        due("see(5, 0)", Told.outcome(() -> well.see(5, 0)), NSE);
        due("see(-1, 0)", Told.outcome(() -> well.see(-1, 0)), NSE);
        due("see(0, 8)", Told.outcome(() -> well.see(0, 8)), NSE);
        due("see(0, -1)", Told.outcome(() -> well.see(0, -1)), NSE);
        due("refused still", well.count(14), 1);
        due("secret(2)", Told.outcome(() -> well.secret(2)), NSE);
        due("secret(-1)", Told.outcome(() -> well.secret(-1)), NSE);
        due("acts don't count it", well.count(9), 2);
        well.forget();
        due("forgotten", well.count(10), 0);
        due("no secrets", well.secret(0), 0);
        due("see again", well.see(0, 1), 1);
        well.go(1);
        well.go(2);
        due("who is gone is a teacher still", well.secret(1), 2);
    }

    // promise 28
    private static void games() {
        SpareWell well = Told.land(Told.FIVE);
        due("no couple rests", well.game(0, 1, 0), 0);
        due("the first", well.game(0, 1, 1), -1);
        due("two empty towns", well.game(2, 3, 0), 1);
        due("0 and 0", well.game(2, 3, 1), 0);
        due("one sends one", well.game(1, 2, 1), 10);
        due("one sends one", well.game(2, 1, 1), 1);
        due("the other town", Told.outcome(() -> well.game(0, 4, 0)), NSE);
        due("no such town", Told.outcome(() -> well.game(-1, 0, 0)), NSE);
        due("another what", Told.outcome(() -> well.game(0, 0, 2)), NSE);
        due("another what", Told.outcome(() -> well.game(0, 1, -1)), NSE);
        due("both are one", Told.outcome(() -> well.game(1, 1, 0)), IAE);
        due("both are none", Told.outcome(() -> well.game(4, 4, 0)), NSE);
        SpareWell strong = Told.land("one 0 9 0;one 0 9 0;one 0 9 0;one 0 9 0;one 1 9 0;one 1 9 0;one 1 9 0;"
                + "one 1 9 0;one 1 9 0;");
        due("who doesn't win sends nobody, against nobody one wins", strong.game(0, 1, 0), 0);
        due("none rests", strong.game(0, 1, 1), -1);
        SpareWell much = Told.land("one 0 3 0;one 0 3 0;one 0 3 0;one 0 3 0;one 0 3 0;one 1 9 0;one 1 9 0;one 2 0 0;");
        due("9 can't be beaten by a price that pays", much.game(1, 0, 0), 0);
        due("9 against 0", much.game(1, 2, 1), 10);
        SpareWell even = Told.land("one 0 9 0;one 1 9 0;");
        due("either sends its one", even.game(0, 1, 0), 2);
        due("the first: the other one sends", even.game(0, 1, 1), 1);
        due("how many", much.game(1, 2, 0), 1);
        SpareWell weak = Told.land("one 0 0 0;one 1 0 0;");
        due("strength 0 gains nothing", weak.game(0, 1, 1), 0);
        weak.go(0);
        weak.move(1, 3);
        due("towns as they are now", weak.game(3, 2, 1), 0);
        SpareWell gone = Told.land("one 0 5 0;");
        gone.go(0);
        due("who is gone counts", gone.game(0, 1, 1), 10);
    }

    // promise 29
    private static void years() {
        SpareWell one = Told.land("one 0 1 0;work 0 0 1 1 1;hero 1;");
        // month 0 goes, 1 comes back (a hero of one month), 2 goes, 3 back, 4 goes
        due("went in 5 months", one.year(1, 5, 0), 3);
        due("gone at the end", one.year(1, 5, 1), 1);
        due("gone a month later", one.year(1, 6, 1), 0);
        due("all work was done", one.year(1, 5, 2), 0);
        one.months(1);
        due("he must work in month 1", one.year(9, 1, 0), 0);
        due("and goes in month 2", one.year(9, 2, 0), 1);
        due("nothing has changed", one.count(4), 1);
        due("nobody is gone", one.count(5), 0);
        due("acts", one.count(9), 1);
        SpareWell empty = Told.land("work 0 0 3 5 1;");
        due("nobody: months undone", empty.year(3, 60, 2), 15);
        due("nobody went", empty.year(3, 60, 0), 0);
        due("nobody is gone", empty.year(3, 60, 1), 0);
        // seed 1: 1103527590, bits 16 to 30 are 16838; then -1770801821 -> 5758, and so on
        SpareWell three = Told.land("one 0 1 0;one 0 1 0;one 0 1 0;");
        due("16838 MOD 3 is 2: 2 goes", three.year(1, 1, 0), 1);
        three.go(2);
        due("2 comes back", three.year(1, 1, 1), 0);
        due("16838, then 5758 MOD 3 is 1", three.year(1, 2, 1), 1);
        due("another what ahead", Told.outcome(() -> three.year(1, 61, 3)), NSE);
        due("another what", Told.outcome(() -> three.year(1, 1, -1)), NSE);
        due("61", Told.outcome(() -> three.year(1, 61, 0)), IAE);
        due("-1", Told.outcome(() -> three.year(1, -1, 0)), IAE);
        due("0 months", three.year(1, 0, 1), 1);
    }

    // promises 30, 32, 33
    private static void neededWaysDoer() {
        SpareWell well = Told.land("one 0 1 0;one 0 1 0 1;one 0 1 1;one 1 1 0;work 0 1 0 1 1;work 0 0 0 0 1;"
                + "work 2 2 7 7 1;");
        due("needed", well.needed(), 0);
        due("ways: 1 0, 2 0, 2 1", well.ways(), 3);
        due("doer(0)", well.doer(0), 1);
        due("doer(1)", well.doer(1), 0);
        due("doer(2)", Told.outcome(() -> well.doer(2)), NSE);
        due("doer(-1)", Told.outcome(() -> well.doer(-1)), NSE);
        well.go(0);
        due("needed then", well.needed(), 6);
        due("ways then", well.ways(), 1);
        due("doer(0) then", well.doer(0), 2);
        due("doer(1) then", well.doer(1), 1);
        well.months(1);
        due("needed in month 1", well.needed(), 0);
        due("ways", well.ways(), 2);
        due("one piece", Told.outcome(() -> well.doer(1)), NSE);
        well.months(6);
        due("undone: nobody is needed", well.needed(), 0);
        due("no way", well.ways(), 0);
        due("no doer", well.doer(0), -1);
        well.months(1);
        due("no pieces: one way", well.ways(), 1);
        due("no such piece", Told.outcome(() -> well.doer(0)), NSE);
        SpareWell twelve = Told.land("one 0 1 0;".repeat(12) + "work 0 0 0 0 4;".repeat(3) + "work 0 0 1 1 4;");
        due("12 in a row", twelve.ways(), 479001600L);
        due("the last one", twelve.doer(11), 11);
        due("all are needed", twelve.needed(), 4095);
        twelve.months(1);
        due("four of twelve", twelve.ways(), 11880L);
    }

    // promises 34, 35
    private static void recalledAndAllMonths() {
        SpareWell well = Told.land("one 0 1 0;one 0 1 0 1;one 0 1 1;work 0 0 3 3 1;work 0 1 3 4 1;work 1 0 9 9 1;"
                + "work 0 0 5 5 2;");
        due("nobody has to", well.recalled(3), 0);
        well.go(0);
        well.go(1);
        well.go(2);
        due("now nobody", well.recalled(0), 0);
        due("two of them, the least", well.recalled(3), 3);
        due("one of them, the least", well.recalled(4), 2);
        due("both of two", well.recalled(5), 3);
        due("it can't be", well.recalled(9), -1);
        due("recalled(-1)", Told.outcome(() -> well.recalled(-1)), IAE);
        due("recalled(12)", Told.outcome(() -> well.recalled(12)), IAE);
        SpareWell all = Told.land("one 0 1 0;".repeat(12) + "work 0 0 1 1 4;".repeat(3));
        for (int i = 0; i < 12; i++) {
            all.go(i);
        }
        due("all twelve", all.recalled(1), 4095);
        well.months(11);
        due("four months on is month 3", well.recalled(4), 3);
        well.undo();
        due("all months", well.allMonths(0), 0);
        due("three months", well.allMonths(3), 9);
        due("to month 5", well.allMonths(6), 9 + 1 + 2 + 1);
        due("a year: none counts 0", well.allMonths(12), 9 + 1 + 2 + 1 + 9 + 0 + 6);
        due("two years", well.allMonths(24), 56);
        due("allMonths(-1)", Told.outcome(() -> well.allMonths(-1)), IAE);
        due("allMonths(25)", Told.outcome(() -> well.allMonths(25)), IAE);
    }

    // promise 36
    private static void school() {
        due("nothing to gain", Told.land(Told.FIVE).school(), -1);
        SpareWell well = Told.land("one 0 1 0;one 0 1 1;one 0 1 1;one 1 1 1;bond 1 2;work 0 0 0 0 1;");
        due("1 learns 0", well.school(), 10);
        due("skills stay", well.one(1, 2), 2);
        well.go(1);
        due("1 is gone: 2 learns", well.school(), 20);
        SpareWell undone = Told.land("one 0 1 0 1;one 0 1 5;one 0 1 6;work 0 0 0 0 1;work 0 1 0 0 1;");
        due("none, then one: the first skill", undone.school(), 10);
        undone.go(2);
        undone.move(0, 1);
        due("nobody teaches", undone.school(), -1);
    }

    // promise 37
    private static void clash() {
        SpareWell well = Told.land(Told.FIVE);
        due("2 and 3 are bound, 3 and 4 work", well.clash(0), 2);
        due("the first", well.clash(1), 203);
        due("clash(2)", Told.outcome(() -> well.clash(2)), NSE);
        due("clash(-1)", Told.outcome(() -> well.clash(-1)), NSE);
        well.go(2);
        due("one alone", well.clash(0), 0);
        due("none", well.clash(1), -1);
        SpareWell law = Told.land("one 0 1 0;one 0 2 0;one 0 3 0;law gone=0 or strength=3;");
        due("0 and 1 by the law; 2 may go behind each", law.clash(0), 1);
        due("the first", law.clash(1), 1);
    }

    // promises 38, 39, 40
    private static void lackingWorthLack() {
        SpareWell well = Told.land("one 0 1 0;one 0 1 0 1;one 1 1 1;work 0 0 2 3 2;work 0 1 3 3 1;work 0 0 3 3 2;");
        due("month 2", well.lacking(2), 0);
        due("month 3", well.lacking(3), 3);
        due("month 4", well.lacking(4), 0);
        due("lacking(12)", Told.outcome(() -> well.lacking(12)), IAE);
        due("lacking(-1)", Told.outcome(() -> well.lacking(-1)), IAE);
        well.go(0);
        due("gone or not", well.lacking(2), 0);
        due("lack in month 2", well.lack(0, 0, 2), 0);
        due("lack in month 3", well.lack(0, 0, 3), 2);
        due("lack of 1", well.lack(0, 1, 3), 0);
        due("no pieces", well.lack(1, 1, 3), 0);
        well.move(2, 0);
        well.learn(2, 0, 1);
        due("towns and skills as they are", well.lack(0, 0, 3), 1);
        due("no town", Told.outcome(() -> well.lack(4, 0, 12)), NSE);
        due("no town", Told.outcome(() -> well.lack(-1, 0, 0)), NSE);
        due("no skill", Told.outcome(() -> well.lack(0, 8, 12)), NSE);
        due("no skill", Told.outcome(() -> well.lack(0, -1, 0)), NSE);
        due("no month", Told.outcome(() -> well.lack(0, 0, 12)), IAE);
        due("no month", Told.outcome(() -> well.lack(0, 0, -1)), IAE);
        SpareWell five = Told.land(Told.FIVE);
        due("worth of who must work", five.worth(0), 4);
        due("worth of 2", five.worth(2), 1);
        due("worth(5)", Told.outcome(() -> five.worth(5)), NSE);
        due("worth(-1)", Told.outcome(() -> five.worth(-1)), NSE);
        SpareWell bound = Told.land("one 0 1 0;one 0 1 0;one 0 1 0;bond 0 1;bond 1 2;work 1 1 5 5 1;");
        due("who holds two back", bound.worth(1), 0);
        due("one of the two", bound.worth(0), 1);
        bound.months(5);
        due("none with him, none without", bound.worth(0), 0);
    }

    // promises 41, 42
    private static void images() {
        SpareWell well = Told.land(Told.FIVE);
        due("no image", well.restore(), false);
        well.go(4);
        well.months(3);
        well.back(4);
        well.learn(1, 0, 0);
        well.move(1, 2);
        well.see(1, 5);
        well.image();
        well.undo();
        well.undo();
        well.move(0, 3);
        well.go(2);
        well.months(7);
        well.forget();
        well.see(0, 7);
        well.see(0, 6);
        well.go(0);
        int refused = well.count(13);
        well.feed(0, 0, 0, 0, 0);
        for (int again = 0; again < 2; again++) {
            due("restore", well.restore(), true);
            due("gone", well.count(5), 0);
            due("heroes", well.one(4, 4), 2);
            due("skills", well.one(1, 2), 3);
            due("town", well.one(1, 0), 2);
            due("town of 0", well.one(0, 0), 0);
            due("month", well.count(4), 3);
            due("acts", well.count(9), 5);
            due("seen", well.count(10), 1);
            due("secret", well.secret(1), -1);
            due("status stays", well.count(13), refused);
            due("the tape stays", well.count(11), 20);
            due("undo", well.undo(), 4);
            due("undone", well.one(1, 0), 0);
            well.undo();
            due("undo back", well.undo(), 2);
            due("gone", well.count(5), 16);
            well.months(1);
        }
        well.image();
        well.months(2);
        due("another image", well.restore(), true);
        due("its month", well.count(4), 4);
        SpareWell fresh = new SpareWell();
        fresh.image();
        fresh.months(2);
        due("of nobody", fresh.restore(), true);
        due("its month", fresh.count(4), 0);
    }
}
