/** The document's third part: sets of people who can be gone. */
final class BoundsOfSets {
    private static final String P = "one 0 1 0;";

    private final Sentences s;

    BoundsOfSets(Sentences sentences) {
        s = sentences;
    }

    private void says(String words) {
        s.says(Sentences.TERMS, words);
    }

    void all() {
        theMost();
        theStrongest();
        forMonths();
        neverAndLast();
        orders();
        wells();
        onePieceMore();
        trade();
        none();
    }

    private void theMost() {
        says("TOGETHER, in this MONTH, whoever is gone now (bonds count, LAW and HEROES don't): THE MOST who CAN BE"
                + " GONE;");
        s.due("nobody", Told.land("").most(0), 0);
        s.due("all twelve", Told.land(P.repeat(12)).most(0), 12);
        s.due("all but those who work", Told.land(P.repeat(12) + "work 0 0 0 0 4;work 0 0 0 0 3;").most(0), 5);
        s.due("all work", Told.land(P.repeat(12) + "work 0 0 0 0 4;".repeat(3)).most(0), 0);
        s.due("more work than people",
                Told.land(P.repeat(12) + "work 0 0 0 0 4;".repeat(3) + "work 0 0 0 0 1;").most(0), -1);
        s.due("of a row of bonds every second one", Told.land(P.repeat(9)
                + "bond 0 1;bond 1 2;bond 2 3;bond 3 4;bond 4 5;bond 5 6;bond 6 7;bond 7 8;").most(0), 5);
        s.due("a star of bonds", Told.land(P.repeat(9)
                + "bond 0 1;bond 0 2;bond 0 3;bond 0 4;bond 0 5;bond 0 6;bond 0 7;bond 0 8;").most(0), 8);
        s.due("the law doesn't count", Told.land(P + P + "law 0;").most(0), 2);
        SpareWell well = Told.land(P + P + P + "work 0 0 0 0 1;work 0 0 5 5 3;hero 9;");
        well.go(0);
        well.back(0);
        well.go(1);
        s.due("heroes and who is gone don't", well.most(0), 2);
        well.months(5);
        s.due("this month's work does", well.most(0), 0);
        well.months(1);
        s.due("and it is over", well.most(0), 3);
        SpareWell left = Told.land("one 0 1 0;one 0 1 0 1;one 0 1 1;work 0 0 0 0 1;work 0 1 0 0 1;bond 0 2;");
        s.due("who works is chosen so that most can go", left.most(0), 1);
    }

    private void theStrongest() {
        says(" THE STRONGEST: the SET that CAN BE GONE of which the STRENGTHS are most together, of like ones the"
                + " least as bits;");
        s.due("nobody", Told.land("").most(1), 0);
        s.due("nobody's strength", Told.land("").most(2), 0);
        s.due("all of nothing: the least is nobody", Told.land("one 0 0 0;one 0 0 0;").most(1), 0);
        s.due("together nothing", Told.land("one 0 0 0;one 0 0 0;").most(2), 0);
        SpareWell like = Told.land("one 0 0 0;one 0 3 0;one 0 3 0;bond 1 2;");
        s.due("the least of like ones", like.most(1), 2);
        s.due("together", like.most(2), 3);
        s.due("two of 3, or one of 6", Told.land("one 0 6 0;one 0 3 0;one 0 3 0;bond 0 1;bond 0 2;").most(1), 1);
        s.due("two of 3, ahead of one of 6", Told.land("one 0 3 0;one 0 3 0;one 0 6 0;bond 2 1;bond 2 0;").most(1), 3);
        s.due("one is more than many", Told.land("one 0 1 0;one 0 1 0;one 0 9 0;bond 2 1;bond 2 0;").most(1), 4);
        SpareWell twelve = Told.land("one 0 9 0;".repeat(12));
        s.due("all", twelve.most(1), 4095);
        s.due("all together", twelve.most(2), 108);
    }

    private void forMonths() {
        says(" FOR so many MONTHS (1 to 12), from this one on, in each of them: THE STRONGEST SET of just so many"
                + " PEOPLE (0 to 12), what they are together; none.");
        SpareWell well = Told.land("one 0 9 0;one 0 1 1;work 0 0 2 2 1;");
        s.due("now", well.strongest(1, 1, 0), 1);
        s.due("two months", well.strongest(2, 1, 0), 1);
        s.due("three months", well.strongest(3, 1, 0), 2);
        s.due("their strength", well.strongest(3, 1, 1), 1);
        s.due("both for two", well.strongest(2, 2, 0), 3);
        s.due("both together", well.strongest(2, 2, 1), 10);
        s.due("both for three", well.strongest(3, 2, 0), -1);
        s.due("both for three together", well.strongest(3, 2, 1), -1);
        s.due("just nobody", well.strongest(12, 0, 0), 0);
        s.due("more than there are", well.strongest(1, 3, 0), -1);
        well.months(11);
        s.due("over the end of the year", well.strongest(3, 1, 0), 1);
        s.due("to month 2 of the next", well.strongest(4, 1, 0), 2);
        well.months(4);
        s.due("eleven months behind it", well.strongest(11, 2, 0), 3);
        s.due("twelve", well.strongest(12, 2, 0), -1);
        s.due("all twelve", Told.land("one 0 9 0;".repeat(12)).strongest(12, 12, 1), 108);
        SpareWell six = Told.land("one 0 0 0;".repeat(6) + "one 0 9 0;".repeat(6));
        s.due("the last six of twelve", six.strongest(12, 6, 0), 4032);
        s.due("the last seven", six.strongest(12, 7, 0), 4033);
        s.due("their strength", six.strongest(12, 7, 1), 54);
        SpareWell like = Told.land("one 0 2 0;one 0 4 0;one 0 3 0;one 0 3 0;bond 1 2;bond 1 3;");
        s.due("4 and 2, or 3 and 3: the least", like.strongest(1, 2, 0), 3);
        s.due("of just so many, though fewer are as strong", Told.land("one 0 0 0;one 0 5 0;").strongest(1, 2, 0), 3);
        s.due("the strengths may be nothing", Told.land("one 0 0 0;").strongest(1, 1, 1), 0);
    }

    private void neverAndLast() {
        says("NEVER: those of whom, alone, none CAN BE GONE in any MONTH of the year.");
        s.due("nobody", Told.land("").never(), 0);
        s.due("every month has work for him",
                Told.land("one 0 1 0 1;one 0 1 2;work 0 0 0 5 1;work 0 1 6 11 1;").never(), 1);
        s.due("all but month 5", Told.land("one 0 1 0 1;one 0 1 2;work 0 0 0 4 1;work 0 1 6 11 1;").never(), 0);
        s.due("all but the last one", Told.land("one 0 1 0;work 0 0 0 10 1;").never(), 0);
        s.due("all but the first one", Told.land("one 0 1 0;work 0 0 1 11 1;").never(), 0);
        s.due("undone all the year: all", Told.land(P.repeat(12) + "work 1 1 0 11 1;").never(), 4095);
        s.due("each alone could", Told.land(P + P + "work 0 0 0 11 1;").never(), 0);
        s.due("the law counts for nothing", Told.land(P + "law 0;").never(), 0);
        says(" THE LAST: how many MONTHS (0 to 24), this one the first, so many PEOPLE (0 to 12), the same ones all the"
                + " time, CAN BE GONE at most");
        s.due("all the time", Told.land(P).last(1), 24);
        s.due("nobody", Told.land("").last(0), 24);
        SpareWell well = Told.land("one 0 1 0;work 0 0 11 11 1;");
        s.due("to month 11", well.last(1), 11);
        s.due("nobody lasts", well.last(0), 24);
        well.months(11);
        s.due("not now", well.last(1), 0);
        well.months(1);
        s.due("from month 12 on", well.last(1), 11);
        SpareWell same = Told.land("one 0 1 0;one 0 1 1;work 0 0 1 1 1;work 0 1 2 2 1;");
        s.due("the same one: 1 to month 2", same.last(1), 2);
        s.due("both", same.last(2), 1);
        same.months(3);
        s.due("both, over the end of the year", same.last(2), 10);
        s.due("one of them", same.last(1), 11);
        s.due("not even nobody", Told.land("work 0 0 0 0 1;").last(0), 0);
        says(" (0 also, if there are fewer).");
        s.due("of nobody one", Told.land("").last(1), 0);
        s.due("of two three", same.last(3), 0);
        s.due("of eleven twelve", Told.land(P.repeat(11)).last(12), 0);
        s.due("of twelve twelve", Told.land(P.repeat(12)).last(12), 24);
    }

    private void orders() {
        says("ORDERS of a SET of PEOPLE at home: in how many orders all of them could GO one behind the other in this"
                + " MONTH (LAW, HEROES, bonds and all).");
        s.due("nobody", Told.land("").orders(0), 1);
        s.due("nobody, though work is undone", Told.land("work 0 0 0 0 1;").orders(0), 1);
        s.due("one", Told.land(P).orders(1), 1);
        s.due("one who must work", Told.land(P + "work 0 0 0 0 1;").orders(1), 0);
        s.due("twelve", Told.land(P.repeat(12)).orders(4095), 479001600);
        s.due("by the law one after the other",
                Told.land("one 0 0 0;one 0 1 0;one 0 2 0;law gone=strength;").orders(7), 1);
        s.due("the law lets one go", Told.land(P + P + "law gone=0;").orders(3), 0);
        s.due("the law lets one of them go, and first", Told.land("one 0 1 0;one 1 1 0;law gone=0 and"
                + " town=1;").orders(3), 0);
        s.due("twelve by a law", Told.land(P.repeat(12) + "law gone+home=12;").orders(4095), 479001600);
        s.due("the strong one first, then one of town 1, then any", Told.land("one 1 1 0;".repeat(5) + P.repeat(6)
                + "one 0 9 0;law gone=0 and strength=9 or gone=1 and town or 1<gone;").orders(4095), 5 * 3628800);
        s.due("the law looks at who is at home", Told.land("one 0 1 0;one 0 2 0;law home=strength;").orders(3), 1);
        SpareWell well = Told.land(P + P + P + "one 0 1 1;bond 0 1;work 0 0 0 0 1;hero 1;");
        s.due("bound ones", well.orders(3), 0);
        s.due("two of three", well.orders(6), 2);
        s.due("all three must work or are bound", well.orders(7), 0);
        well.go(3);
        well.back(3);
        s.due("a hero", well.orders(8), 0);
        s.due("with a hero", well.orders(12), 0);
        well.months(1);
        s.due("no hero any more", well.orders(12), 2);
        well.go(0);
        s.due("bound to one who is gone", well.orders(2), 0);
        s.due("without the bound one", well.orders(12), 2);
    }

    private void wells() {
        says("WELLS of one: how many PIECES of this MONTH fewer can be given so by those at home, at most, without him"
                + " than with him");
        SpareWell well = Told.land("one 0 1 0;one 0 1 0 1;one 1 1 0;work 0 0 0 1 1;work 0 1 0 0 1;");
        s.due("he does one", well.wells(0), 1);
        s.due("so does he", well.wells(1), 1);
        s.due("he doesn't", well.wells(2), 0);
        well.months(1);
        s.due("the other one can", well.wells(0), 0);
        s.due("and he", well.wells(1), 0);
        well.months(1);
        s.due("no work", well.wells(0), 0);
        SpareWell chain = Told.land("one 0 1 0;one 0 1 0 1;one 0 1 1 2;work 0 0 0 0 1;work 0 1 0 0 1;");
        s.due("others take his place", chain.wells(0), 0);
        says(" (0, if he is gone);");
        SpareWell gone = Told.land(P + "work 0 0 1 1 1;");
        gone.go(0);
        gone.months(1);
        s.due("gone", gone.wells(0), 0);
        gone.back(0);
        s.due("back", gone.wells(0), 1);
        says(" of nobody: how many PIECES of this MONTH are left, if as many as can be are given to those at home.");
        s.due("none left", gone.wells(-1), 0);
        gone.undo();
        s.due("one left", gone.wells(-1), 1);
        s.due("nobody does anything", Told.land("work 0 0 0 0 4;".repeat(14)).wells(-1), 56);
        s.due("twelve do twelve", Told.land(P.repeat(12) + "work 0 0 0 0 4;".repeat(14)).wells(-1), 44);
        s.due("one skill is left over", Told.land("one 0 1 0;one 0 1 0;work 0 0 0 0 1;work 0 1 0 0 1;").wells(-1), 1);
        s.due("in every town",
                Told.land("one 0 1 0;one 1 1 0;work 0 0 0 0 2;work 1 0 0 0 3;work 2 0 0 0 1;").wells(-1), 4);
    }

    private void onePieceMore() {
        says("ONE MORE PIECE of a SKILL in a TOWN, in this MONTH: by how many fewer THE MOST is then.");
        SpareWell well = Told.land("one 0 1 0;one 0 1 0;one 1 1 1;work 0 0 0 0 1;work 0 0 1 1 2;");
        s.due("the other one stays", well.piece(0, 0), 1);
        s.due("the one there stays", well.piece(1, 1), 1);
        s.due("nobody can", well.piece(0, 1), 3);
        well.months(1);
        s.due("nobody more can", well.piece(0, 0), 2);
        s.due("2 stays", well.piece(1, 1), 1);
        well.months(1);
        s.due("one of two stays", well.piece(0, 0), 1);
        s.due("nothing is kept of it", well.count(8), 0);
        s.due("one who stays anyhow", Told.land(P + P + "bond 0 1;").piece(0, 0), 0);
        s.due("twelve work already", Told.land(P.repeat(12) + "work 0 0 0 0 4;".repeat(3)).piece(0, 0), 1);
        says(" ONE MORE TAUGHT: were one to have a SKILL besides: by how many more THE MOST is then.");
        SpareWell taught = Told.land("one 0 1 0;one 0 1 1;one 1 1 1;work 0 0 0 0 1;work 0 0 1 1 2;bond 1 2;");
        s.due("none is more", taught.taught(0, 0), 0);
        s.due("one of the bound ones stays", taught.taught(1, 0), 1);
        s.due("in another town", taught.taught(2, 0), 0);
        taught.months(1);
        s.due("none, then one", taught.taught(1, 0), 2);
        s.due("nothing is kept of it", taught.one(1, 2), 2);
        taught.undo();
        taught.go(1);
        s.due("gone or not", taught.taught(1, 0), 1);
    }

    private void trade() {
        says(" A TRADE: two of unlike TOWNS change TOWNS: by which THE MOST is greatest, if it is more than without;"
                + " of like ones the first couple; none.");
        s.due("nobody", Told.land("").trade(), -1);
        s.due("nobody else", Told.land(P).trade(), -1);
        s.due("of one town", Told.land("one 0 1 0;one 0 1 1;bond 0 1;work 1 0 0 0 1;").trade(), -1);
        s.due("it is no more than without", Told.land("one 0 1 0;one 1 1 1;").trade(), -1);
        s.due("the first of like ones",
                Told.land("one 0 1 1;one 0 1 1;one 1 1 0;one 1 1 0;work 0 0 0 0 1;").trade(), 2);
        // with 2 at work two of 0, 1, 3 can be gone, with 3 at work all others
        s.due("the greatest, not the first", Told.land("one 0 1 5;one 0 1 5;one 1 1 0;one 1 1 0;work 0 0 0 0 1;"
                + "bond 3 0;bond 3 1;").trade(), 3);
        SpareWell gone = Told.land("one 0 1 1;one 1 1 0;work 0 0 1 1 1;");
        gone.go(0);
        gone.months(1);
        s.due("gone or not", gone.trade(), 1);
        s.due("they stay where they are", gone.one(0, 0) * 10 + gone.one(1, 0), 1);
        s.due("ten and eleven", Told.land("one 1 1 1;".repeat(10) + "one 0 1 1;one 2 1 0;work 0 0 0 0 1;").trade(),
                1011);
    }

    private void none() {
        says("(Where not even nobody CAN BE GONE, THE MOST is none, and counts as 0 less 1.)");
        SpareWell undone = Told.land("one 0 1 1;one 1 1 0;work 0 0 0 0 1;");
        s.due("none", undone.most(0), -1);
        s.due("no set", undone.most(1), -1);
        s.due("no strength", undone.most(2), -1);
        s.due("none then too", undone.piece(0, 0), 0);
        s.due("from none to one", undone.taught(0, 0), 2);
        s.due("from none to none", undone.taught(1, 1), 0);
        s.due("a trade that lets one go", undone.trade(), 1);
        s.due("worth of none less none", undone.worth(0), 0);
        SpareWell work = Told.land(P + "work 0 0 0 0 1;");
        s.due("from nobody to none", work.piece(0, 0), 1);
        s.due("worth of nobody less none", work.worth(0), 1);
        SpareWell to = Told.land("one 0 1 1;work 0 0 0 0 1;");
        s.due("from none to nobody", to.taught(0, 0), 1);
        SpareWell both = Told.land("one 0 1 1;one 1 1 0;work 0 0 0 0 1;work 1 1 0 0 1;");
        s.due("a trade from none to nobody", both.trade(), 1);
    }
}
