/** Edges of promises 12 to 17: crossing, taking, days, and what can be seen of people, keepers and the book. */
final class EdgesOfDeeds {
    /** Person 0 at bridge 0 with names 2 0 1, of 5, 3 and 4 letters. */
    private static final String CROSSER = """
        name 0 3
        name 1 4
        name 2 5
        bridge 2 6
        bridge 3 4
        person 2 50
        christen 0 2,0,1
        """;
    /** Person 0 left names 7 4 1, with which he was christened, and has 0 still. */
    private static final String LOSER = """
        8* name 0 1
        bridge 0 1
        person 0 0
        christen 0 7,4,1,0
        3* cross 0 0
        of 0 6 -> {0}
        """;
    /** Person 0 has left a hundred tolls, all name 0 at bridge 0, and has names 0 and 1 at place 0. */
    private static final String FULL_BOOK = """
        name 0 1
        name 0 1
        bridge 0 1
        person 0 0
        christen 0 0
        """ + "cross 0 0 -> 0\ntake 0 0 0 -> true\n".repeat(100) + """
        look 4 -> 100
        christen 0 1
        """;

    private EdgesOfDeeds() { }

    static void all(Edges e) {
        cross(e);
        toll(e);
        theBook(e);
        take(e);
        draw(e);
        day(e);
        gossip(e);
        of(e);
        kept(e);
        book(e);
    }

    private static void cross(Edges e) {
        e.edge(12, "To CROSS a BRIDGE (from the one PLACE to the other one):", CROSSER, """
            cross 0 0 -> 2
            of 0 0 -> 6
            cross 0 0 -> 0
            of 0 0 -> 2
            person 4 0
            cross 1 1 -> 100
            of 1 0 -> 3
            # bridges beside each other lead to the same place
            bridge 6 2 -> 2
            cross 0 2 -> 1
            of 0 0 -> 6
            """);
        e.edge(12, "if one's LETTERS, of all one's NAMES added, are not above FERRY: free.", CROSSER, """
            of 0 3 -> 12
            set 1 0 11 -> true
            cross 0 0 -> 2
            undo -> true
            set 1 0 12 -> true
            cross 0 0 -> 100
            set 1 0 13 -> true
            cross 0 0 -> 100
            of 0 2 -> 3
            # whatever the law says
            law keep;
            cross 0 0 -> 100
            set 1 0 11 -> true
            cross 0 0 -> -2
            """);
        e.edge(12, "if one's LETTERS, of all one's NAMES added, are not above FERRY: free.", """
            bridge 0 1
            person 0 0
            law keep;
            # no letters are not above 0
            cross 0 0 -> 100
            of 0 0 -> 1
            9* name 0 12
            christen 0 0..8 -> true
            set 1 0 99 -> true
            of 0 3 -> 108
            cross 0 0 -> -2
            law
            cross 0 0 -> 0
            cross 0 0 -> 100
            """);
        e.edge(12, "A PERSON CROSSES a BRIDGE: the NAME that was left,", """
            20* name 0 1
            12* bridge 0 1
            8* person 0 0
            christen 7 19,0 -> true
            cross 7 11 -> 19
            cross 7 11 -> 0
            of 7 2 -> 0
            """);
        e.edge(12, "100 free,", CROSSER, """
            set 1 0 99 -> true
            cross 0 0 -> 100
            of 0 0 -> 6
            of 0 2 -> 3
            of 0 5 -> {}
            look 4 -> 0
            kept 0 0..2 -> 0
            look 10 -> 1
            """);
        e.edge(12, "NONE if one can't be (he is at neither PLACE).", CROSSER, """
            cross 0 1 -> NONE
            cross 0 2,-1,12,MIN,MAX -> NONE
            cross 1,-1,8,MIN,MAX 0 -> NONE
            set 3 0 7 -> true
            cross 0 0,1 -> NONE
            # not even for nothing
            set 1 0 99 -> true
            cross 0 0,1 -> NONE
            of 0 0 -> 7
            """);
    }

    private static void toll(Edges e) {
        e.edge(12, "Else one leaves the first NAME of one's row that may be left:", CROSSER, """
            cross 0 0 -> 2
            undo -> true
            law keep when order=0;
            cross 0 0 -> 0
            undo -> true
            of 0 10 -> 2
            of 0 11 -> 0
            law keep when order<2;
            cross 0 0 -> 1
            of 0 10 -> 2
            of 0 11 -> 0
            of 0 12 -> NONE
            of 0 5 -> {1}
            """);
        e.edge(12, "the KEEPER has one more of it,", CROSSER, """
            person 6 0
            christen 1 2
            cross 0 0 -> 2
            kept 0 2 -> 1
            cross 1 0 -> 2
            kept 0 2 -> 2
            kept 0 0,1 -> 0
            kept 1 0..2 -> 0
            """);
        e.edge(12, "If none may be left one can't.", CROSSER, """
            law keep;
            cross 0 0 -> -2
            law keep when letters>0;
            cross 0 0 -> -2
            law leave when letters=6; keep;
            cross 0 0 -> -2
            law leave when letters=4; keep;
            cross 0 0 -> 1
            cross 0 0 -> -2
            """);
        e.edge(12, "-2 if none may be left;", CROSSER, """
            law keep;
            cross 0 0 -> -2
            # who is not there is not asked for a name
            cross 0 1 -> NONE
            set 1 0 11 -> true
            cross 0 0 -> -2
            """);
        e.edge(12, "Nothing is done then (-2, too).", CROSSER, """
            cross 0 0 -> 2
            law keep;
            cross 0 0 -> -2
            cross 0 1 -> NONE
            of 0 0 -> 6
            of 0 6 -> {0,1}
            of 0 5 -> {2}
            kept 0 0,1 -> 0
            look 4 -> 1
            # the crossing before can still be undone, and it alone
            look 10 -> 1
            undo -> true
            of 0 0 -> 2
            undo -> false
            """);
    }

    private static void theBook(Edges e) {
        e.edge(12, "THE BOOK (100 lines; no more then) PERSON, BRIDGE, NAME, DAY.", FULL_BOOK, """
            book 99 0..3 -> 0
            day
            law keep when order=0;
            cross 0 0 -> 1
            look 4 -> 100
            book 100 0..3 -> NONE
            # the last line is as it was
            book 99 2,3 -> 0
            # the toll was left all the same
            kept 0 1 -> 1
            undo -> true
            look 4 -> 100
            book 99 2,3 -> 0
            """);
        e.edge(12, "THE BOOK (100 lines; no more then) PERSON, BRIDGE, NAME, DAY.", FULL_BOOK, """
            image true -> true
            cross 0 0 -> 0
            cross 0 0 -> 1
            undo -> true
            undo -> true
            look 4 -> 100
            undo -> false
            """);
        e.edge(15, "LEFT of a PERSON: the set of NAMES that he left so far (also beyond THE BOOK; taken ones, too).", FULL_BOOK, """
            # name 0 was taken each time
            of 0 5 -> {0}
            law keep when order=0;
            cross 0 0 -> 1
            look 4 -> 100
            of 0 5 -> {0,1}
            """);
    }

    private static void take(Edges e) {
        e.edge(13, "To TAKE a NAME from a KEEPER at a PLACE of his BRIDGE: he has one less;", CROSSER, """
            2* person 6 0
            christen 1,2 2
            cross 0,1,2 0 -> 2
            kept 0 2 -> 3
            # from the one side and from the other
            of 0 0 -> 6
            take 0 0 2 -> true
            kept 0 2 -> 2
            of 1 0 -> 2
            take 1 0 2 -> true
            kept 0 2 -> 1
            take 2 0 2 -> true
            kept 0 2 -> 0
            person 2 0
            take 3 0 2 -> false
            kept 0 2 -> 0
            """);
        e.edge(13, "it comes behind one's row (one that one has not).", CROSSER, """
            cross 0 0 -> 2
            take 0 0 2 -> true
            of 0 10 -> 0
            of 0 11 -> 1
            of 0 12 -> 2
            # to take is not to be christened
            person 6 0
            christen 1 1
            cross 0 0 -> 0
            take 1 0 0 -> true
            of 1 6 -> {0,1}
            of 1 4 -> {1}
            of 1 5 -> {}
            of 1 11 -> 0
            """);
        e.edge(13, "A PERSON TAKES a NAME from a KEEPER: true;", """
            20* name 0 1
            12* bridge 0 7
            8* person 7 0
            christen 7 19
            cross 7 11 -> 19
            take 0 11 19 -> true
            of 0 6 -> {19}
            kept 11 19 -> 0
            """);
        e.edge(13, "false if one can't be (none there, he is not there, has it, or nine).", """
            11* name 0 1
            bridge 0 1
            bridge 1 2
            person 0 0
            person 1 0
            person 1 0
            christen 0 10,9 -> true
            christen 1 9 -> true
            christen 2 0..7 -> true
            cross 0 0 -> 10
            cross 0 0 -> 9
            # none there: of that name, with that keeper
            take 1 0 8 -> false
            take 1 1 10 -> false
            # not there
            set 3 1 2 -> true
            take 1 0 10 -> false
            set 3 1 1 -> true
            # has it
            take 1 0 9 -> false
            # nine
            take 2 0 10 -> true
            of 2 2 -> 9
            take 2 0 9 -> false
            kept 0 9 -> 1
            # no such ones
            take 3,-1,8,MIN,MAX 0 9 -> false
            take 1 2,-1,12,MIN,MAX 9 -> false
            take 1 0 11,-1,20,32,41,MIN,MAX -> false
            """);
    }

    private static void draw(Edges e) {
        e.edge(14, "a DRAW of m: it becomes 1664525 times itself + 1013904223 (ints, which wrap),", LOSER, """
            set 0 0 1 -> true
            day -> 0
            look 5 -> 1013904223
            state 1
            day -> 0
            look 5 -> 1015568748
            state -1
            day -> 0
            look 5 -> 1012239698
            state MAX
            day -> 0
            look 5 -> -1135243950
            state MIN
            day -> 0
            look 5 -> -1133579425
            """);
        // of -1133579425 without its sign the highest 24 bits are 12349171, of -951047886 they are 13062185
        e.edge(14, "then it is its highest 24 bits (without sign) modulo m.", LOSER, """
            state MIN
            set 0 0 171 -> true
            day -> 0
            state MIN
            set 0 0 172 -> true
            day -> 1
            look 5 -> -951047886
            # 13062185 modulo 3 is 2
            of 0 11 -> 7
            """);
    }

    private static void day(Edges e) {
        e.edge(14, "DAY 0 .. 9999 (0 at first).", "look 3 -> 0", "day -> 0", "look 3 -> 1", "255* day", "look 3 -> 256");
        e.edge(14, "A DAY: DAY is one more;", """
            name 0 1
            bridge 0 1
            person 0 0
            christen 0 0
            3* day
            look 3 -> 3
            cross 0 0 -> 0
            book 0 3 -> 3
            day -> 0
            look 3 -> 4
            book 0 3 -> 3
            """);
        e.edgeBeyondAllRuns(14, "NONE, and nothing is done, if DAY is 9999.", LOSER, """
            9998* day
            look 3 -> 9998
            day -> 0
            look 3 -> 9999
            day -> NONE
            look 3 -> 9999
            # nothing grows, nothing is drawn, nothing is forgotten
            set 0 0 1000 -> true
            cross 0 0 -> 0
            day -> NONE
            look 3 -> 9999
            look 5 -> 0
            look 10 -> 1
            undo -> true
            """);
    }

    private static void gossip(Edges e) {
        e.edge(14, "PERSON by number,", """
            4* name 0 1
            bridge 0 1
            2* person 0 0
            christen 0 0,1
            christen 1 2,3
            2* cross 0 0
            2* cross 1 0
            set 0 0 1000
            # draws of 65, then 1 of 2; of 777, then 0 of 2
            state 1
            day -> 2
            of 0 6 -> {1}
            of 1 6 -> {2}
            """);
        e.edge(14, "if GOSSIP is above 0,", LOSER, """
            # a draw of 0 would be next
            state 457
            day -> 0
            look 5 -> 457
            set 0 0 1 -> true
            day -> 1
            look 5 -> -1158835485
            """);
        e.edge(14, "and he was CHRISTENED some that he has not,", LOSER, """
            set 0 0 1000
            3* day -> 1
            of 0 6 -> {0,1,4,7}
            state 5
            day -> 0
            look 5 -> 5
            # who took a name and left it was not christened so
            person 1 0
            take 1 0 7 -> true
            cross 1 0 -> 7
            day -> 0
            look 5 -> 5
            # nor is a name lost that he has again, by whatever way
            cross 0 0 -> 0
            take 0 0 0 -> true
            day -> 0
            look 5 -> 5
            """);
        e.edge(14, "and has fewer than 9:", """
            10* name 0 1
            bridge 0 1
            person 0 0
            christen 0 0..8
            cross 0 0 -> 0
            christen 0 9 -> true
            set 0 0 1000 -> true
            # nine, and one that he has not
            day -> 0
            look 5 -> 0
            of 0 2 -> 9
            cross 0 0 -> 1
            # eight, and two
            day -> 1
            look 5 -> 1196435762
            of 0 2 -> 9
            day -> 0
            look 5 -> 1196435762
            """);
        e.edge(14, "a DRAW of 1000: below GOSSIP", LOSER, """
            # 999 is below 1000, not below 999
            set 0 0 999
            state 1188
            day -> 0
            look 5 -> -1303607373
            set 0 0 1000
            state 1188
            day -> 1
            look 5 -> 148777334
            # 0 is below 1, 1 is not
            set 0 0 1
            state 945
            day -> 0
            look 5 -> -1708086948
            state 457
            day -> 1
            look 5 -> -1158835485
            """);
        e.edge(14, "that of these told by a DRAW of how many they are (by number) comes behind his row.", LOSER, """
            set 0 0 1000
            image true
            # 0, 1, 2 of 1 4 7
            state 0
            day -> 1
            of 0 10 -> 0
            of 0 11 -> 1
            image false
            state 8
            day -> 1
            of 0 11 -> 4
            image false
            state 9
            day -> 1
            of 0 11 -> 7
            # 0 of 1 4, and then the last one, which is drawn for, too
            state 8
            day -> 1
            of 0 12 -> 1
            state 0
            day -> 1
            look 5 -> 1196435762
            of 0 13 -> 4
            of 0 4 -> {0,1,4,7}
            of 0 5 -> {1,4,7}
            kept 0 1,4,7 -> 1
            """);
        e.edge(14, "A DAY: how many NAMES grew back;", """
            name 0 1
            day -> 0
            bridge 0 1
            8* person 0 0
            christen 0..7 0
            cross 0..6 0 -> 0
            set 0 0 1000
            # seven of eight had lost it
            day -> 7
            of 0..7 6 -> {0}
            day -> 0
            """);
    }

    private static void of(Edges e) {
        String he = """
            7* name 0 2
            name 3 12
            bridge 5 7
            person 5 9999
            christen 0 6,7,0
            cross 0 0 -> 6
            person 1 3
            """;
        e.edge(15, "Of a PERSON what 0 PLACE, 1 COIN,", he, "of 0 0 -> 7", "of 0 1 -> 9999", "of 1 0 -> 1", "of 1 1 -> 3");
        e.edge(15, "2 how many NAMES, 3 LETTERS of all,", he, """
            of 0 2 -> 2
            of 0 3 -> 14
            of 1 2,3 -> 0
            """);
        e.edge(15, "3 LETTERS of all,", "9* name 0 12", "person 0 0", "christen 0 0..8", "of 0 3 -> 108");
        e.edge(15, "4 CHRISTENED, 5 LEFT (sets), 6 what he HAS, as a set,", he, """
            of 0 4 -> {0,6,7}
            of 0 5 -> {6}
            of 0 6 -> {0,7}
            of 1 4,5,6 -> {}
            """);
        e.edge(15, "6 what he HAS, as a set,", "20* name 0 1", "person 0 0", "christen 0 19,0", "of 0 4,6 -> {0,19}");
        e.edge(15, "10 + i NAME i of his row.", "9* name 0 1", "person 0 0", "of 0 10 -> NONE", "christen 0 8,7,6,5,4,3,2,1", """
            of 0 10 -> 8
            of 0 17 -> 1
            of 0 18 -> NONE
            christen 0 0
            of 0 18 -> 0
            of 0 19 -> NONE
            of 0 9 -> NONE
            """);
        e.edge(15, "NONE if there is none such, or another what.", he, """
            of 2,-1,8,MIN,MAX 0..6,10 -> NONE
            of 0 7..9,-1,12,18,19,20,MIN,MAX -> NONE
            of 1 10 -> NONE
            """);
    }

    private static void kept(Edges e) {
        e.edge(16, "How many of a NAME a KEEPER has;", """
            20* name 0 1
            12* bridge 0 1
            8* person 0 0
            christen 0..7 19
            cross 0..7 11 -> 19
            kept 11 19 -> 8
            kept 10 19 -> 0
            kept 11 18 -> 0
            kept 0 0 -> 0
            """);
        e.edge(16, "NONE if there is none such.", "kept 0 0 -> NONE", "3* name 0 1", "kept 0 0 -> NONE", "2* bridge 0 1", """
            kept 2,-1,12,MIN,MAX 0 -> NONE
            kept 0 3,-1,20,MIN,MAX -> NONE
            kept 1 2 -> 0
            """);
    }

    private static void book(Edges e) {
        e.edge(17, "Of line i of THE BOOK what 0 PERSON, 1 BRIDGE, 2 NAME, 3 DAY.", CROSSER, """
            person 3 0
            christen 1 1
            2* day
            cross 1 1 -> 1
            day
            cross 0 0 -> 2
            look 4 -> 2
            book 0 0 -> 1
            book 0 1 -> 1
            book 0 2 -> 1
            book 0 3 -> 2
            book 1 0 -> 0
            book 1 1 -> 0
            book 1 2 -> 2
            book 1 3 -> 3
            # nothing is written of what is free
            cross 1 1 -> 100
            look 4 -> 2
            """);
        e.edge(17, "NONE if there is none such, or another what.", "book 0 0..3 -> NONE", CROSSER, """
            cross 0 0 -> 2
            book 1,-1,100,MIN,MAX 0..3 -> NONE
            book 0 4,-1,10,MIN,MAX -> NONE
            book 0 0 -> 0
            # a line that was undone is none
            undo -> true
            book 0 0..3 -> NONE
            """);
    }
}
