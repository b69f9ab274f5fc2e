/** Edges of promises 28 and 29: crossings undone, and the image. */
final class EdgesOfTime {
    /** Person 0 has names 3 1 4 0 at bridge 0, person 1 names 1 2 on its other side. */
    private static final String TWO = """
        6* name 0 1
        bridge 0 1
        bridge 1 2
        person 0 10
        person 1 20
        christen 0 3,1,4,0
        christen 1 1,2
        """;
    /** One crossing that can be undone, and things of which all deeds can be done. */
    private static final String CROSSED = TWO + """
        cross 0 0 -> 3
        look 10 -> 1
        """;

    private EdgesOfTime() { }

    static void all(Edges e) {
        undo(e);
        eightAreKept(e);
        forgotten(e);
        notForgotten(e);
        image(e);
        imageOfAll(e);
        fullImage(e);
        imageAgain(e);
    }

    private static void undo(Edges e) {
        e.edge(28, "UNDO: the latest crossing not undone yet goes back (PLACE, NAMES, KEEPER, LEFT, THE BOOK):", TWO, """
            law keep when order=0;
            day
            cross 0 0 -> 1
            cross 1 0 -> 2
            cross 0 0 -> 4
            look 10 -> 3
            undo -> true
            of 0 0 -> 1
            of 0 2 -> 3
            of 0 10 -> 3
            of 0 11 -> 4
            of 0 12 -> 0
            of 0 5 -> {1}
            kept 0 4 -> 0
            kept 0 1,2 -> 1
            look 4 -> 2
            undo -> true
            of 1 0 -> 1
            of 1 10 -> 1
            of 1 11 -> 2
            of 1 5 -> {}
            kept 0 2 -> 0
            look 4 -> 1
            book 0 2 -> 1
            book 1 2 -> NONE
            undo -> true
            of 0 0 -> 0
            of 0 11 -> 1
            of 0 12 -> 4
            of 0 13 -> 0
            of 0 4 -> {0,1,3,4}
            of 0 5 -> {}
            kept 0 0..5 -> 0
            look 4 -> 0
            undo -> false
            """);
        e.edge(28, "UNDO: the latest crossing not undone yet goes back", TWO, """
            # by ferry there is only the way to go back
            set 1 0 99
            cross 0 0 -> 100
            undo -> true
            of 0 0 -> 0
            of 0 6 -> {0,1,3,4}
            look 4 -> 0
            undo -> false
            # undone and crossed again
            set 1 0 0
            cross 0 0 -> 3
            undo -> true
            cross 0 0 -> 3
            look 10 -> 1
            look 4 -> 1
            kept 0 3 -> 1
            undo -> true
            kept 0 3 -> 0
            """);
        e.edge(28, "(PLACE, NAMES, KEEPER, LEFT, THE BOOK)", TWO, """
            # what he had left before he has left still
            cross 0 0 -> 3
            take 0 0 3 -> true
            law leave when order=3; keep;
            cross 0 0 -> 3
            of 0 5 -> {3}
            undo -> true
            of 0 5 -> {3}
            of 0 6 -> {0,1,3,4}
            kept 0 3 -> 0
            look 4 -> 1
            # and cousins are cousins no more
            cousins 0,1 -> {}
            law leave when order=0; keep;
            cross 0 0 -> 1
            cross 1 0 -> 1
            cousins 0 -> {1}
            kept 0 1 -> 2
            undo -> true
            cousins 0 -> {}
            kept 0 1 -> 1
            """);
        e.edge(28, "UNDO: true; false if there is nothing.", "undo -> false", TWO, """
            undo -> false
            cross 0 0 -> 3
            undo -> true
            undo -> false
            # what was not done can't be undone
            law keep;
            cross 0 0 -> -2
            cross 0 1 -> NONE
            undo -> false
            of 0 6 -> {0,1,3,4}
            """);
    }

    private static void eightAreKept(Edges e) {
        String nine = """
            10* name 0 1
            bridge 0 1
            person 0 0
            christen 0 0..8
            """;
        e.edge(28, "8 are kept;", nine, """
            8* cross 0 0
            look 10 -> 8
            8* undo -> true
            undo -> false
            of 0 6 -> {0..8}
            # of nine the first stays done
            9* cross 0 0
            of 0 6 -> {}
            look 10 -> 8
            undo -> true
            of 0 6 -> {8}
            7* undo -> true
            undo -> false
            of 0 6 -> {1..8}
            of 0 10 -> 1
            of 0 17 -> 8
            of 0 5 -> {0}
            of 0 0 -> 1
            kept 0 0 -> 1
            kept 0 1..8 -> 0
            look 4 -> 1
            book 0 2 -> 0
            """);
        e.edge(28, "8 are kept;", nine, """
            # of twenty, of which eleven were free
            20* cross 0 0
            look 10 -> 8
            8* undo -> true
            undo -> false
            look 4 -> 9
            of 0 6 -> {}
            # undone ones make room
            christen 0 0..8
            8* cross 0 0
            3* undo -> true
            3* cross 0 0
            look 10 -> 8
            8* undo -> true
            of 0 6 -> {0..8}
            undo -> false
            """);
    }

    private static void forgotten(Edges e) {
        String quote = "whatever else is told or done";
        String gone = "\nlook 10 -> 0\nundo -> false\nof 0 0 -> ";
        for (String deed : new String[] {"name 0 1 -> 6", "person 0 0 -> 2", "bridge 0 1 -> 2", "christen 0 3 -> true",
            "christen 1 5 -> true", "set 0 0 0 -> true", "set 1 0 0 -> true", "set 2 0 10 -> true", "set 2 1 1 -> true",
            "set 3 0 1 -> true", "set 3 1 1 -> true", "take 0 0 3 -> true", "day -> 0"}) {
            e.edge(28, quote, CROSSED, deed + gone + 1);
        }
        e.edge(28, quote, CROSSED, "image true -> true\nimage false -> true" + gone + 1);
    }

    private static void notForgotten(Edges e) {
        String quote = "but texts, the ROUND, STATE (and taking THE IMAGE) forgets them.";
        String kept = "\nlook 10 -> 1\nundo -> true\nof 0 0 -> 0\nof 0 10 -> 3\nundo -> false";
        for (String deed : new String[] {"law keep; -> 1", "law", "bad 1 4 keep", "feed 0 0 0 0 0 -> 20", "end 0 -> true",
            "text -> 0", "round 0 -> 1", "round NONE -> 0", "state 9 -> 0", "image true -> true"}) {
            e.edge(28, quote, CROSSED, deed + kept);
        }
        e.edge(28, quote, CROSSED, """
            law keep; -> 1
            round 0 -> 1
            state 9 -> 0
            undo -> true
            # these stay as they were told
            look 8 -> 1
            look 9 -> 1
            look 5 -> 9
            """);
        // refused deeds and questions do nothing
        e.edge(28, quote, CROSSED, """
            name 4 1 -> NONE
            person 8 0 -> NONE
            bridge 1 1 -> NONE
            christen 0 1 -> false
            set 0 0 1001 -> false
            set 1 0 100 -> false
            set 2 0 -1 -> false
            set 3 0 8 -> false
            set 4 0 0 -> false
            end 1 -> false
            cross 1 1 -> 1
            undo -> true
            cross 0 2 -> NONE
            take 0 0 5 -> false
            round 2 -> NONE
            image false -> false
            """, kept);
    }

    private static void image(Edges e) {
        e.edge(29, "THE IMAGE is taken (true), or gone back to (false): true;", TWO, """
            image true -> true
            cross 0 0 -> 3
            of 0 0 -> 1
            image false -> true
            of 0 0 -> 0
            of 0 10 -> 3
            # taken anew: the later one counts
            cross 1 1 -> 1
            image true -> true
            cross 1 1 -> 2
            image false -> true
            of 1 0 -> 2
            of 1 6 -> {2}
            of 0 0 -> 0
            """);
        e.edge(29, "false if there is none.", TWO, """
            image false -> false
            cross 0 0 -> 3
            image false -> false
            of 0 0 -> 1
            look 10 -> 1
            image true -> true
            image false -> true
            """);
        e.edge(29, "gone back to it may be more than once.", TWO, """
            image true -> true
            cross 0 0 -> 3
            image false -> true
            of 0 6 -> {0,1,3,4}
            cross 0 0 -> 3
            cross 0 0 -> 1
            image false -> true
            image false -> true
            of 0 6 -> {0,1,3,4}
            of 0 0 -> 0
            look 4 -> 0
            """);
        // of an empty world, and at once
        e.edge(29, "as it was when it was taken;", "image true -> true", TWO, "cross 0 0 -> 3", "image false -> true", """
            look 0..10 -> 0
            of 0 0 -> NONE
            look 20,40,60 -> NONE
            name 3 7 -> 0
            look 20 -> 3
            look 40 -> 7
            """);
    }

    private static void imageOfAll(Edges e) {
        String all = TWO + """
            name 3 12
            day
            cross 0 0 -> 3
            take 1 0 3
            cross 1 1 -> 1
            round 0
            round 1
            state 12
            set 0 0 7
            set 1 0 1
            law keep when order=0;
            image true -> true
            """;
        String others = """
            name 1 1
            person 7 7
            bridge 6 7
            christen 0 5
            christen 1 0
            set 2 0 99
            set 3 0 0
            set 1 0 0
            law leave;leave;
            cross 0 0 -> 1
            cross 0 0 -> 4
            day
            set 0 0 1000
            day
            round 1
            round NONE
            round 1
            2* round 0
            state -3
            image false -> true
            """;
        e.edge(29, "THE IMAGE: all that is and was told", all, others, """
            look 0 -> 7
            look 1,2 -> 2
            look 3 -> 1
            look 4 -> 2
            look 5 -> 12
            look 6 -> 7
            look 7 -> 1
            look 8 -> 1
            look 9 -> 2
            look 26 -> 3
            look 46 -> 12
            look 27,47,64,65 -> NONE
            """);
        e.edge(29, "THE IMAGE: all that is and was told", all, others, """
            of 0 0 -> 1
            of 0 1 -> 10
            of 0 2 -> 3
            of 0 4 -> {0,1,3,4}
            of 0 5 -> {3}
            of 0 6 -> {0,1,4}
            of 0 10 -> 1
            of 0 11 -> 4
            of 0 12 -> 0
            of 1 0 -> 2
            of 1 6 -> {2,3}
            of 1 4 -> {1,2}
            of 1 5 -> {1}
            of 2 0 -> NONE
            kept 0 0..6 -> 0
            kept 1 1 -> 1
            kept 2 0 -> NONE
            book 0 0..1 -> 0
            book 0 2 -> 3
            book 0 3 -> 1
            book 1 0..3 -> 1
            book 2 0 -> NONE
            """);
        e.edge(29, "THE IMAGE: all that is and was told", all, others, """
            # the law, and what is written and drawn from then on
            cross 0 0 -> 4
            book 2 2 -> 4
            book 2 3 -> 1
            # the round goes 0 1 2, and person 0 is there
            plan 0 0 -> 0
            plan 1 0 -> NONE
            # both have lost a name: two draws
            set 0 0 1
            day -> 0
            look 5 -> 1576304926
            """);
    }

    private static void fullImage(Edges e) {
        e.edge(29, "THE IMAGE: all that is and was told", """
            20* name 0 1
            12* bridge 0 1
            8* person 0 9999
            christen 7 19,18,17,16,15,14,13,12,11 -> true
            cross 7 11 -> 19
            christen 7 10 -> true
            11* round 0
            round 11
            """, "law " + "keep when 1=2;".repeat(15) + "keep when letters=1 and order=0 and like=0 and kept=9; -> 16", """
            image true -> true
            round NONE
            12* round 1
            cross 7 11 -> 18
            cross 7 11 -> 17
            christen 7 0,1 -> true
            set 2 7 0
            law keep; -> 1
            image false -> true
            of 7 10 -> 18
            of 7 17 -> 11
            of 7 18 -> 10
            of 7 0 -> 1
            of 7 1 -> 9999
            of 7 4 -> {10..19}
            of 7 5 -> {19}
            kept 11 19 -> 1
            kept 11 17,18 -> 0
            look 8 -> 16
            look 9 -> 12
            plan 7 0 -> 0
            cross 7 11 -> 18
            """);
        e.edge(29, "THE IMAGE: all that is and was told", """
            2* name 0 1
            bridge 0 1
            person 0 0
            christen 0 0
            """, "cross 0 0 -> 0\ntake 0 0 0 -> true\n".repeat(99), """
            christen 0 1
            cross 0 0 -> 0
            image true -> true
            # the last line is undone and written anew
            undo -> true
            law keep when order=0;
            cross 0 0 -> 1
            book 99 2 -> 1
            image false -> true
            book 99 2 -> 0
            look 4 -> 100
            """);
    }

    private static void imageAgain(Edges e) {
        e.edge(29, "but the TAPE, fault()", TWO, """
            bad 1 4 keep
            # "keep;" and blanks
            feed 0x6b656570 0x3b202020 0x20202020 0x20202020 0x20202020 -> 20
            image true -> true
            feed 0x6b656570 0x3b202020 0x20202020 0x20202020 0x20202020 -> 40
            image false -> true
            end 41 -> false
            end 40 -> true
            text -> 2
            fault 0 -> 0
            bad 2 12 keep when 1/0=1;
            image false -> true
            # not the 1 at 4 of the time when it was taken
            fault 0 -> 2
            fault 1 -> 12
            look 8 -> 0
            """);
        e.edge(29, "and what can be undone (nothing then),", CROSSED, """
            image true -> true
            look 10 -> 1
            image false -> true
            look 10 -> 0
            undo -> false
            of 0 0 -> 1
            of 0 5 -> {3}
            cross 0 0 -> 1
            look 10 -> 1
            image false -> true
            look 10 -> 0
            undo -> false
            """);
        e.edge(29, "as it was when it was taken;", TWO, """
            image true -> true
            person 5 5 -> 2
            christen 2 0,1 -> true
            bridge 5 6 -> 2
            cross 2 2 -> 0
            name 2 9 -> 6
            image false -> true
            # new ones with old numbers begin anew
            person 4 4 -> 2
            of 2 2 -> 0
            of 2 4,5,6 -> {}
            bridge 4 6 -> 2
            kept 2 0..5 -> 0
            name 1 8 -> 6
            look 26 -> 1
            look 46 -> 8
            """);
    }
}
