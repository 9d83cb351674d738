import java.util.StringJoiner;

/** Promises 1 to 20, sentence by sentence. */
final class BoundsOfCalls {
    private static final String NSE = Sentences.NSE;
    private static final String IAE = Sentences.IAE;
    private static final String P = "one 0 1 0;";

    private final Sentences s;

    BoundsOfCalls(Sentences sentences) {
        s = sentences;
    }

    void all() {
        newObject();
        feed();
        land();
        landThrows();
        fault();
        count();
        one();
        work();
        spared();
        go();
        back();
        learn();
        move();
        months();
        undo();
        can();
        most();
        strongest();
        never();
        last();
        orders();
    }

    /** All that can be seen but what was refused. */
    static String state(SpareWell well) {
        StringJoiner row = new StringJoiner(" ");
        for (int what = 0; what <= 16; what++) {
            row.add(what >= 12 && what <= 14 ? "" : "c" + well.count(what));
        }
        for (int person = 0; person < well.count(0); person++) {
            for (int what = 0; what <= 5; what++) {
                row.add("p" + well.one(person, what));
            }
        }
        for (int work = 0; work < well.count(1); work++) {
            for (int what = 0; what <= 5; what++) {
                row.add("w" + well.work(work, what));
            }
        }
        return row.add("s" + well.spared()).add("t" + well.secret(0)).add("u" + well.secret(1)).toString();
    }

    static String shown(SpareWell well) {
        return state(well) + " " + well.count(12) + " " + well.count(13) + " " + well.count(14) + " " + well.fault();
    }

    private void newObject() {
        s.says(1, "Nobody, no WORKS.");
        SpareWell well = new SpareWell();
        int[] due = {0, 0, 0, 12, 0, 0, 0, 1, 0, 0, 0, 0, 0, 0, 0, 0, 0};
        for (int what = 0; what < due.length; what++) {
            s.due("count(" + what + ")", well.count(what), due[what]);
        }
        s.throwsOne(NSE, "one", () -> well.one(0, 0));
        s.throwsOne(NSE, "work", () -> well.work(0, 0));
        s.due("fault", well.fault(), -1);
        s.due("spared", well.spared(), 0);
        s.due("undo", well.undo(), -1);
        s.due("restore", well.restore(), false);
        s.due("never", well.never(), 0);
        s.due("free", well.free(), 0);
        s.due("ways", well.ways(), 1L);
        s.due("land of nothing", well.land(0), 0);
        s.due("months", well.months(1), 1);
    }

    private void feed() {
        s.says(2, "Twenty bytes come behind the tape, of each number the highest first: how many it has;");
        SpareWell well = new SpareWell();
        s.due("twenty", well.feed(0x6865726f, 0x20370a20, 0x3b6f6e65, 0x20302031, 0x20303b20), 20);
        s.due("what it has", well.count(11), 20);
        s.due("behind it", well.feed(0x6f6e6520, 0x33203920, 0x373b2020, 0x20202020, 0x20202020), 40);
        s.due("they are a land", well.land(40), 0);
        s.due("hero 7", well.count(3), 7);
        s.due("two people", well.count(0), 2);
        s.due("the second one's skill", well.one(1, 2), 128);
        SpareWell high = new SpareWell();
        high.feed(0x6865726f, 0x80ff8180, 0xffffffff, Integer.MIN_VALUE, -1);
        s.due("bytes over 127", high.land(20), 1);
        s.due("their place", high.fault(), 4);
        SpareWell last = new SpareWell();
        last.feed(0, 0, 0, 0, 0x0000003b);
        s.due("the first is 0", last.land(20), 1);
        s.due("its place", last.fault(), 0);
        s.says(2, "NONE, and none come, if it would have more than 700.");
        SpareWell full = new SpareWell();
        for (int i = 1; i <= 35; i++) {
            s.due("feed", full.feed(0x20202020, 0x20202020, 0x20202020, 0x20202020, 0x20202020), 20 * i);
        }
        s.due("the 36th", full.feed(0x3b3b3b3b, 0x3b3b3b3b, 0x3b3b3b3b, 0x3b3b3b3b, 0x3b3b3b3b), -1);
        s.due("once more", full.feed(0x3b3b3b3b, 0x3b3b3b3b, 0x3b3b3b3b, 0x3b3b3b3b, 0x3b3b3b3b), -1);
        s.due("700 stay", full.count(11), 700);
        s.due("they are blanks still", full.land(700), 0);
        s.due("and then there is room", full.feed(0, 0, 0, 0, 0), 20);
    }

    private void land() {
        s.says(3, "The tape's first n bytes (it is empty then) are a LAND, all anew: 0,");
        SpareWell well = new SpareWell();
        Told.feed(well, P + P);
        s.due("half of it", well.land(10), 0);
        s.due("one", well.count(0), 1);
        s.due("the tape is empty", well.count(11), 0);
        Told.feed(well, P + P);
        s.due("all of it", well.land(20), 0);
        s.due("not three", well.count(0), 2);
        Told.feed(well, P + P);
        s.due("nothing of it", well.land(0), 0);
        s.due("nobody", well.count(0), 0);
        s.due("the tape is empty", well.count(11), 0);
        tellsTheSame();
        s.says(3, " or the FAULT (all stays).");
        SpareWell stays = Told.land(Told.FIVE);
        stays.go(2);
        stays.months(1);
        stays.see(1, 0);
        stays.image();
        stays.go(4);
        String before = state(stays);
        String[] faulty = {";", "one 1 1 1;one 4 1 1;", "bond 0 1;", "one 0 1 0 0;", "hero 3;law 1;hero 3;"};
        for (int i = 0; i < faulty.length; i++) {
            s.due("fault " + (i + 1), Told.tell(stays, faulty[i]), i + 1);
            s.due("all stays", state(stays), before);
        }
        s.due("the tape is empty", stays.count(11), 0);
        s.due("the image stays", stays.restore(), true);
        s.due("its gone", stays.count(5), 4);
        s.due("the acts stay", stays.undo(), 1);
        s.says(3, "ACTS, the MONTH, what is SEEN, the image are gone (STATUS stays).");
        stays.go(0);
        for (int i = 0; i < 9; i++) {
            stays.see(0, 1);
        }
        s.due("anew", Told.tell(stays, P), 0);
        s.due("acts", stays.count(9), 0);
        s.due("undo", stays.undo(), -1);
        s.due("the month", stays.count(4), 0);
        s.due("seen", stays.count(10), 0);
        s.due("image", stays.restore(), false);
        s.due("gone", stays.count(5), 0);
        s.due("heroes", stays.count(6), 0);
        s.due("hero", stays.count(3), 12);
        s.due("bonds", stays.count(2), 0);
        s.due("no law", stays.spared(), 1);
        s.due("status 0", stays.count(12), 5);
        s.due("status 1", stays.count(13), 1);
        s.due("status 2", stays.count(14), 2);
    }

    /** Nothing of the lands told before counts. */
    private void tellsTheSame() {
        String text = "one 0 1 0;one 0 2 1;one 1 3 0 7;work 0 0 1 1 1;work 1 7 1 2 2;bond 0 1;bond 2 1;hero 5;law"
                + " strength;";
        String first = state(Told.land(text));
        SpareWell well = new SpareWell();
        for (int i = 0; i < 5; i++) {
            s.due("told again", Told.tell(well, text), 0);
            s.due("is all anew", state(well), first);
            well.go(2);
            well.back(2);
            well.learn(0, 1, 1);
            well.move(1, 3);
            well.see(1, 1);
            well.months(1);
        }
        s.due("a smaller one", Told.tell(well, P), 0);
        s.due("has nothing of it", state(well), state(Told.land(P)));
        s.due("and none", Told.tell(well, ""), 0);
        s.due("is as a new object", state(well), state(new SpareWell()));
    }

    private void landThrows() {
        s.says(3, "IllegalArgumentException: the tape has not so many, n below 0 (nothing changes).");
        SpareWell well = Told.land(P + "hero 3;");
        well.go(0);
        well.image();
        Told.tell(well, ";");
        s.throwsOne(IAE, "the tape is empty", () -> well.land(1));
        Told.feed(well, "hero 9;");
        String before = shown(well);
        for (int n : Sentences.beside(0, 20)) {
            s.throwsOne(IAE, "land(" + n + ")", () -> well.land(n));
        }
        s.due("nothing has changed", shown(well), before);
        s.due("the place neither", well.fault(), 0);
        s.due("the image neither", well.restore(), true);
        s.due("the tape is there", well.land(7), 0);
        s.due("and told", well.count(3), 9);
    }

    private void fault() {
        s.says(4, "The place of the latest land()'s FAULT;");
        SpareWell well = new SpareWell();
        Told.tell(well, "one 0 1;");
        s.due("the place", well.fault(), 7);
        s.due("asked again", well.fault(), 7);
        Told.tell(well, "hero 3;hero 3;");
        s.due("the latest one's", well.fault(), 7);
        Told.tell(well, ";");
        s.due("the first byte", well.fault(), 0);
        Told.tell(well, "law 1" + " ".repeat(695));
        s.due("the text's length", well.fault(), 700);
        s.says(4, " NONE without.");
        Told.tell(well, "hero 3;");
        s.due("without", well.fault(), -1);
        s.due("of a new object", new SpareWell().fault(), -1);
    }

    private void count() {
        s.says(5, "0 PEOPLE, 1 WORKS, 2 BONDS, 3 HERO, 4 the MONTH, 5 who is gone (bits), 6 HEROES (bits),");
        SpareWell well = Told.land(P.repeat(12) + "work 0 0 2 2 4;".repeat(3) + "work 0 0 5 5 4;bond 0 11;hero 24;");
        int[] told = {12, 4, 1, 24, 0, 0, 0};
        for (int what = 0; what < told.length; what++) {
            s.due("count(" + what + ")", well.count(what), told[what]);
        }
        well.go(11);
        s.due("the twelfth is gone", well.count(5), 2048);
        well.back(11);
        well.go(0);
        s.due("the first is gone", well.count(5), 1);
        s.due("the twelfth is a hero", well.count(6), 2048);
        s.says(5, " 7 whether all WORK of this MONTH is DONE by those at home (1), 8 PIECES of this MONTH,");
        s.due("no work", well.count(7), 1);
        s.due("no pieces", well.count(8), 0);
        well.months(2);
        s.due("one is missing", well.count(7), 0);
        s.due("twelve pieces", well.count(8), 12);
        well.back(0);
        s.due("all are there", well.count(7), 1);
        s.due("two heroes", well.count(6), 2049);
        well.months(21);
        s.due("the twelfth in his last month", well.count(6), 2049);
        well.months(1);
        s.due("he is none", well.count(6), 1);
        well.undo();
        well.undo();
        well.months(3);
        s.due("four pieces", well.count(8), 4);
        s.says(5, " 9 ACTS that are kept, 10 SEEN, 11 bytes of the tape, 12 to 14 STATUS 0 to 2,");
        s.due("acts", well.count(9), 6);
        well.see(3, 3);
        s.due("seen", well.count(10), 1);
        well.feed(0, 0, 0, 0, 0);
        s.due("tape", well.count(11), 20);
        well.land(20);
        well.go(11);
        well.back(1);
        for (int i = 0; i < 10; i++) {
            well.see(0, 0);
        }
        s.due("status 0", well.count(12), 1);
        s.due("status 1", well.count(13), 2);
        s.due("status 2", well.count(14), 3);
        s.says(5, " 15 the most PIECES of any MONTH of the year, 16 the first such MONTH.");
        s.due("the most", well.count(15), 12);
        s.due("its month", well.count(16), 2);
        s.due("no work", Told.land("").count(15), 0);
        s.due("the first month", Told.land("").count(16), 0);
        s.due("the last month", Told.land("work 0 0 11 11 1;").count(16), 11);
        s.due("of like ones the first", Told.land("work 0 0 7 7 2;work 1 1 4 4 2;").count(16), 4);
        s.due("over the end of the year", Told.land("work 0 0 10 1 2;work 1 1 1 4 2;").count(16), 1);
        s.due("as many as can be", Told.land("work 0 0 3 3 4;".repeat(14)).count(15), 56);
        s.says(5, "NoSuchElementException: another what.");
        for (int what : Sentences.beside(0, 16)) {
            s.throwsOne(NSE, "count(" + what + ")", () -> well.count(what));
        }
    }

    private void one() {
        s.says(6, "Of somebody: 0 TOWN, 1 STRENGTH, 2 SKILLS (bits), 3 whether he is gone (1),");
        SpareWell well = Told.land("one 3 9 7 0;one 0 0 1;one 2 4 2;bond 0 1;bond 2 0;hero 2;");
        int[][] told = {{3, 9, 129, 0}, {0, 0, 2, 0}, {2, 4, 4, 0}};
        for (int person = 0; person < 3; person++) {
            for (int what = 0; what < 4; what++) {
                s.due("one(" + person + ", " + what + ")", well.one(person, what), told[person][what]);
            }
        }
        well.go(0);
        s.due("gone", well.one(0, 3), 1);
        s.due("the others not", well.one(1, 3) + well.one(2, 3), 0);
        SpareWell twelve = Told.land(P.repeat(12));
        twelve.go(11);
        s.due("the twelfth", twelve.one(11, 3), 1);
        s.due("the eleventh not", twelve.one(10, 3), 0);
        s.says(6, " 4 of how many MONTHS, this one too, he is a HERO still (0: he is none),");
        s.due("none while he is gone", well.one(0, 4), 0);
        well.back(0);
        s.due("this one too", well.one(0, 4), 2);
        well.months(1);
        s.due("the last one", well.one(0, 4), 1);
        well.months(1);
        s.due("he is none", well.one(0, 4), 0);
        well.months(24);
        s.due("long ago", well.one(0, 4), 0);
        s.says(6, " 5 with whom he is bound (bits).");
        s.due("with two", well.one(0, 5), 6);
        s.due("with one", well.one(1, 5), 1);
        s.due("told the other way round", well.one(2, 5), 1);
        s.due("with nobody", Told.land(P).one(0, 5), 0);
        SpareWell apart = Told.land(P.repeat(12) + "bond 10 11;");
        s.due("the eleventh with the twelfth", apart.one(10, 5), 2048);
        s.due("the twelfth with the eleventh", apart.one(11, 5), 1024);
        s.due("the first with nobody", apart.one(0, 5), 0);
        s.says(6, "NoSuchElementException: no such PERSON (as everywhere), what.");
        for (int person : Sentences.beside(0, 2)) {
            s.throwsOne(NSE, "one(" + person + ", 0)", () -> well.one(person, 0));
        }
        for (int what : Sentences.beside(0, 5)) {
            s.throwsOne(NSE, "one(0, " + what + ")", () -> well.one(0, what));
        }
        asEverywhere(well, 3);
        asEverywhere(well, -2);
        asEverywhere(Told.land(""), 0);
        asEverywhere(well, Integer.MAX_VALUE);
    }

    private void asEverywhere(SpareWell well, int person) {
        String before = shown(well);
        s.throwsOne(NSE, "go " + person, () -> well.go(person));
        s.throwsOne(NSE, "back " + person, () -> well.back(person));
        s.throwsOne(NSE, "learn " + person, () -> well.learn(person, 0, 0));
        s.throwsOne(NSE, "learn from " + person, () -> well.learn(0, 0, person));
        s.throwsOne(NSE, "move " + person, () -> well.move(person, 0));
        s.throwsOne(NSE, "wells " + person, () -> well.wells(person));
        s.throwsOne(NSE, "taught " + person, () -> well.taught(person, 0));
        s.throwsOne(NSE, "see " + person, () -> well.see(person, 0));
        s.throwsOne(NSE, "worth " + person, () -> well.worth(person));
        s.due("nothing changes", shown(well), before);
    }

    private void work() {
        s.says(7, "Of a WORK: 0 TOWN, 1 SKILL, 2 from, 3 to, 4 PIECES,");
        SpareWell well = Told.land("work 3 7 11 1 4;work 0 0 5 5 1;");
        int[][] told = {{3, 7, 11, 1, 4}, {0, 0, 5, 5, 1}};
        for (int work = 0; work < 2; work++) {
            for (int what = 0; what < 5; what++) {
                s.due("work(" + work + ", " + what + ")", well.work(work, what), told[work][what]);
            }
        }
        s.says(7, " 5 whether it is in this MONTH (1).");
        String first = "";
        String second = "";
        for (int month = 0; month < 14; month++) {
            first += well.work(0, 5);
            second += well.work(1, 5);
            well.months(1);
        }
        s.due("over the end of the year", first, "11000000000111");
        s.due("one month", second, "00000100000000");
        s.says(7, "NoSuchElementException: no such WORK, what.");
        for (int work : Sentences.beside(0, 1)) {
            s.throwsOne(NSE, "work(" + work + ", 0)", () -> well.work(work, 0));
        }
        for (int what : Sentences.beside(0, 5)) {
            s.throwsOne(NSE, "work(0, " + what + ")", () -> well.work(0, what));
        }
        s.throwsOne(NSE, "where there is none", () -> Told.land("").work(0, 0));
    }

    private void spared() {
        s.says(8, "Who CAN BE SPARED, as bits.");
        s.due("nobody is there", Told.land("").spared(), 0);
        s.due("all", Told.land(P.repeat(12)).spared(), 4095);
        s.due("none", Told.land(P.repeat(12) + "work 0 0 0 0 4;".repeat(3)).spared(), 0);
        s.due("the twelfth", Told.land(P.repeat(11) + "one 1 9 0;law town;").spared(), 2048);
        SpareWell well = Told.land(P + P + P + "work 0 0 0 0 1;");
        well.go(1);
        s.due("without who is gone", well.spared(), 5);
        well.go(0);
        s.due("the last one works", well.spared(), 0);
    }

    private void go() {
        s.says(9, "An ACT: one GOES: how many are gone.");
        SpareWell well = Told.land(P.repeat(12));
        for (int person = 11; person >= 0; person--) {
            s.due("go", well.go(person), 12 - person);
        }
        s.due("acts", well.count(9), 12);
        s.due("all are gone", well.count(5), 4095);
        s.says(9, "NONE (STATUS 1): he can't be spared.");
        String before = state(well);
        s.due("who is gone", well.go(0), -1);
        s.due("status 1", well.count(13), 1);
        s.due("nothing else", state(well), before);
        SpareWell no = Told.land("one 0 1 0;one 0 1 1;one 0 1 2;one 0 5 3;bond 1 2;hero 1;work 0 0 0 0 1;"
                + "law strength=1;");
        s.due("who must work", no.go(0), -1);
        s.due("whom the law keeps", no.go(3), -1);
        no.go(1);
        s.due("who is bound", no.go(2), -1);
        no.back(1);
        s.due("a hero", no.go(1), -1);
        s.due("status 1", no.count(13), 4);
        s.due("acts", no.count(9), 2);
    }

    private void back() {
        s.says(10, "An ACT: one comes BACK: how many are gone.");
        SpareWell well = Told.land(P + P + P + "work 0 0 1 1 3;");
        well.go(0);
        well.go(1);
        well.go(2);
        well.months(1);
        s.due("two are", well.back(1), 2);
        s.due("one is", well.back(0), 1);
        s.due("none is", well.back(2), 0);
        s.due("acts", well.count(9), 7);
        s.due("heroes", well.count(6), 7);
        s.says(10, "NONE (STATUS 1): he isn't gone.");
        s.due("once more", well.back(2), -1);
        s.due("status 1", well.count(13), 1);
        s.due("acts", well.count(9), 7);
        well.months(3);
        s.due("he never went again", well.back(2), -1);
        s.due("is no longer a hero for it", well.one(2, 4), 9);
        s.due("status 1", well.count(13), 2);
    }

    private void learn() {
        s.says(11, "An ACT: one LEARNS: true.");
        SpareWell well = Told.land("one 0 1 0;one 0 1 7;one 1 1 3;");
        s.due("the last skill", well.learn(0, 7, 1), true);
        s.due("the first skill", well.learn(1, 0, 0), true);
        s.due("has it", well.one(0, 2), 129);
        s.due("acts", well.count(9), 2);
        s.says(11, "False (STATUS 1): it can't be, the one has no such SKILL, both are one.");
        s.due("has it already", well.learn(0, 7, 1), false);
        s.due("in another town", well.learn(0, 3, 2), false);
        s.due("no such skill", well.learn(0, 3, 1), false);
        s.due("both are one", well.learn(0, 0, 0), false);
        s.due("both are one without it", well.learn(0, 5, 0), false);
        s.due("status 1", well.count(13), 5);
        well.go(1);
        s.due("who is gone", well.learn(1, 3, 0), false);
        s.due("of who is gone", well.learn(0, 3, 1), false);
        s.due("status 1", well.count(13), 7);
        s.due("acts", well.count(9), 3);
        s.says(11, "NoSuchElementException (ahead): no such PERSON, SKILL.");
        String before = shown(well);
        for (int wrong : Sentences.beside(0, 2)) {
            s.throwsOne(NSE, "person " + wrong, () -> well.learn(wrong, 7, 1));
            s.throwsOne(NSE, "from " + wrong, () -> well.learn(0, 7, wrong));
            s.throwsOne(NSE, "both are " + wrong, () -> well.learn(wrong, 7, wrong));
        }
        for (int wrong : Sentences.beside(0, 7)) {
            s.throwsOne(NSE, "skill " + wrong, () -> well.learn(0, wrong, 1));
            s.throwsOne(NSE, "skill " + wrong + ", both are one", () -> well.learn(0, wrong, 0));
        }
        s.due("nothing changes", shown(well), before);
    }

    private void move() {
        s.says(12, "An ACT: one MOVES: the TOWN as it was.");
        SpareWell well = Told.land("one 2 1 0;");
        s.due("to the last one", well.move(0, 3), 2);
        s.due("to the first one", well.move(0, 0), 3);
        s.due("to his own", well.move(0, 0), 0);
        s.due("acts", well.count(9), 3);
        s.says(12, "NONE (STATUS 1): no such TOWN, he is gone.");
        int refused = 0;
        for (int town : Sentences.beside(0, 3)) {
            s.due("town " + town, well.move(0, town), -1);
            refused++;
            s.due("status 1", well.count(13), refused);
        }
        s.due("where he was", well.one(0, 0), 0);
        well.go(0);
        s.due("he is gone", well.move(0, 1), -1);
        s.due("to no town", well.move(0, 4), -1);
        s.due("status 1", well.count(13), refused + 2);
        s.due("acts", well.count(9), 4);
        s.due("where he was", well.one(0, 0), 0);
        s.throwsOne(NSE, "nobody, to no town", () -> well.move(1, 4));
    }

    private void months() {
        s.says(13, "An ACT: MONTHS go by: the MONTH.");
        SpareWell well = new SpareWell();
        s.due("one", well.months(1), 1);
        s.due("twenty-four", well.months(24), 25);
        s.due("twelve", well.months(12), 37);
        s.due("acts", well.count(9), 3);
        s.says(13, "NONE (STATUS 1): not 1 to 24.");
        int refused = 0;
        for (int many : Sentences.beside(1, 24)) {
            s.due("months(" + many + ")", well.months(many), -1);
            refused++;
            s.due("status 1", well.count(13), refused);
        }
        s.due("months(-1)", well.months(-1), -1);
        s.due("the month stays", well.count(4), 37);
        s.due("acts", well.count(9), 3);
    }

    private void undo() {
        s.says(14, "The last ACT is UNDONE: how many are left.");
        SpareWell well = Told.land(P + "one 0 1 1;");
        well.months(1);
        well.move(0, 2);
        well.go(0);
        s.due("two", well.undo(), 2);
        s.due("he is at home", well.count(5), 0);
        well.go(1);
        s.due("an act in its place", well.count(9), 3);
        s.due("two", well.undo(), 2);
        s.due("one", well.undo(), 1);
        s.due("none", well.undo(), 0);
        s.due("the month", well.count(4), 0);
        eachUndone();
        s.says(14, "NONE: there is none.");
        String before = shown(well);
        s.due("none", well.undo(), -1);
        s.due("none", well.undo(), -1);
        s.due("nothing changes, no status either", shown(well), before);
        s.due("of a new object", new SpareWell().undo(), -1);
        well.months(25);
        well.back(0);
        s.due("what was refused is no act", well.undo(), -1);
    }

    /** Undoing leaves all as it was ahead of the act. */
    private void eachUndone() {
        SpareWell well = Told.land("one 0 1 0;one 0 2 1;one 1 3 0 7;one 0 4 5;work 0 0 8 8 1;bond 0 1;hero 2;");
        String[] before = new String[12];
        for (int i = 0; i < before.length; i++) {
            before[i] = state(well);
            switch (i) {
                case 0, 7 -> well.go(3);
                case 2, 9 -> well.back(3);
                case 1, 4, 6, 10 -> well.months(i);
                case 3 -> well.learn(3, 1, 1);
                case 5 -> well.move(3, 1);
                case 8 -> well.go(0);
                default -> well.move(3, 3);
            }
            s.due("act " + i, well.count(9), i + 1);
        }
        for (int i = before.length - 1; i >= 0; i--) {
            s.due("undone", well.undo(), i);
            s.due("all is as it was ahead of act " + i, state(well), before[i]);
        }
    }

    private void can() {
        s.says(15, "Whether a SET CAN BE GONE in a MONTH of the year.");
        SpareWell well = Told.land(P.repeat(12) + "work 0 0 11 11 4;work 0 0 11 0 1;");
        s.due("all", well.can(4095, 1), true);
        s.due("seven in month 11", well.can(127, 11), true);
        s.due("eight in month 11", well.can(255, 11), false);
        s.due("all but one in month 0", well.can(2047, 0), true);
        s.due("nobody in month 11", well.can(0, 11), true);
        well.months(11);
        s.due("whatever month it is", well.can(4095, 1), true);
        s.says(15, "IllegalArgumentException: PEOPLE that there aren't, not 0 to 11.");
        for (int set : Sentences.beside(0, 4095)) {
            s.throwsOne(IAE, "set " + set, () -> well.can(set, 0));
        }
        for (int month : Sentences.beside(0, 11)) {
            s.throwsOne(IAE, "month " + month, () -> well.can(0, month));
        }
        SpareWell two = Told.land(P + P);
        s.due("both", two.can(3, 0), true);
        s.throwsOne(IAE, "a third one", () -> two.can(4, 0));
        s.throwsOne(IAE, "with a third one", () -> two.can(7, 0));
        s.throwsOne(IAE, "of nobody one", () -> Told.land("").can(1, 0));
    }

    private void most() {
        s.says(16, "THE MOST (what 0), THE STRONGEST (1), what they are together (2);");
        SpareWell well = Told.land("one 0 3 0;one 0 9 1;one 0 4 0;work 0 0 0 0 1;work 0 0 2 2 3;");
        s.due("the most", well.most(0), 2);
        s.due("the strongest", well.most(1), 6);
        s.due("together", well.most(2), 13);
        s.says(16, " NONE: not even nobody CAN BE GONE.");
        well.months(2);
        for (int what = 0; what < 3; what++) {
            s.due("most(" + what + ")", well.most(what), -1);
        }
        SpareWell all = Told.land("one 0 3 0;work 0 0 0 0 1;");
        for (int what = 0; what < 3; what++) {
            s.due("nobody is not none, most(" + what + ")", all.most(what), 0);
        }
        s.says(16, "NoSuchElementException: another what.");
        for (int what : Sentences.beside(0, 2)) {
            s.throwsOne(NSE, "most(" + what + ")", () -> well.most(what));
        }
    }

    private void strongest() {
        s.says(17, "FOR so many MONTHS THE STRONGEST SET of so many: as bits (what 0), what they are together (1);");
        SpareWell well = Told.land("one 0 3 0;one 0 9 1;one 0 4 2;work 0 1 11 11 1;");
        s.due("two for eleven months", well.strongest(11, 2, 0), 6);
        s.due("together", well.strongest(11, 2, 1), 13);
        s.due("two for twelve", well.strongest(12, 2, 0), 5);
        s.due("together", well.strongest(12, 2, 1), 7);
        s.due("nobody for twelve", well.strongest(12, 0, 0), 0);
        s.due("together", well.strongest(12, 0, 1), 0);
        s.due("all for one", well.strongest(1, 3, 0), 7);
        s.says(17, " NONE: none.");
        s.due("all for twelve", well.strongest(12, 3, 0), -1);
        s.due("together", well.strongest(12, 3, 1), -1);
        s.due("twelve of three", well.strongest(1, 12, 0), -1);
        s.due("not even nobody", Told.land("work 0 0 0 0 1;").strongest(1, 0, 0), -1);
        s.says(17, "NoSuchElementException: another what.");
        for (int what : Sentences.beside(0, 1)) {
            s.throwsOne(NSE, "what " + what, () -> well.strongest(1, 1, what));
        }
        s.says(17, "IllegalArgumentException (behind that): MONTHS, how many.");
        for (int months : Sentences.beside(1, 12)) {
            s.throwsOne(IAE, "months " + months, () -> well.strongest(months, 1, 0));
            s.throwsOne(NSE, "months " + months + ", what 2", () -> well.strongest(months, 1, 2));
        }
        for (int many : Sentences.beside(0, 12)) {
            s.throwsOne(IAE, "many " + many, () -> well.strongest(1, many, 1));
            s.throwsOne(NSE, "many " + many + ", what -1", () -> well.strongest(1, many, -1));
        }
    }

    private void never() {
        s.says(18, "NEVER, as bits.");
        s.due("nobody is there", Told.land("").never(), 0);
        s.due("the twelfth", Told.land(P.repeat(11) + "one 1 1 0;work 1 0 0 11 1;").never(), 2048);
        s.due("over the end of the year", Told.land("one 0 1 0;work 0 0 6 5 1;").never(), 1);
        SpareWell well = Told.land("one 0 1 0;work 0 0 1 0 1;");
        well.months(7);
        s.due("whatever month it is", well.never(), 1);
        s.due("undone", Told.land("one 0 1 0;work 1 0 0 11 1;").never(), 1);
    }

    private void last() {
        s.says(19, "THE LAST.");
        SpareWell well = Told.land("one 0 1 0;one 0 1 1;work 0 0 10 10 1;");
        s.due("nobody", well.last(0), 24);
        s.due("one", well.last(1), 24);
        s.due("two", well.last(2), 10);
        s.due("twelve", well.last(12), 0);
        well.months(10);
        s.due("not now", well.last(2), 0);
        well.months(1);
        s.due("eleven months at most", well.last(2), 11);
        s.says(19, "IllegalArgumentException: not 0 to 12.");
        for (int many : Sentences.beside(0, 12)) {
            s.throwsOne(IAE, "last(" + many + ")", () -> well.last(many));
        }
    }

    private void orders() {
        s.says(20, "ORDERS.");
        SpareWell well = Told.land(P + P + P + "work 0 0 0 0 1;hero 1;");
        s.due("nobody", well.orders(0), 1);
        s.due("one", well.orders(4), 1);
        s.due("two", well.orders(5), 2);
        s.due("three", well.orders(7), 0);
        well.months(1);
        s.due("three in month 1", well.orders(7), 6);
        well.go(1);
        s.due("the other two", well.orders(5), 2);
        s.says(20, "IllegalArgumentException: PEOPLE that there aren't, that are gone.");
        for (int set : Sentences.beside(0, 7)) {
            s.throwsOne(IAE, "set " + set, () -> well.orders(set));
        }
        s.throwsOne(IAE, "who is gone", () -> well.orders(2));
        s.throwsOne(IAE, "and another one", () -> well.orders(3));
        s.throwsOne(IAE, "a fourth one", () -> well.orders(8));
        s.throwsOne(IAE, "of nobody one", () -> Told.land("").orders(1));
    }
}
