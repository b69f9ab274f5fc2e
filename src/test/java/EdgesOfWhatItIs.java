/** Edges of the document's first lines: each of its clauses once, in a town that is the same for all. */
final class EdgesOfWhatItIs {
    /** Person 0 has 18 letters, person 1 has 6, both at place 0; person 2 at place 1 has 16. */
    private static final String TOWN = """
        name 0 4
        name 1 4
        name 0 10
        name 2 2
        name 3 12
        bridge 0 1
        bridge 1 2
        bridge 0 2
        bridge 2 3
        person 0 100
        person 0 51
        person 1 9
        christen 0 0,1,2
        christen 1 1,3
        christen 2 4,0
        """;

    private EdgesOfWhatItIs() { }

    static void all(Edges e) {
        tolls(e);
        gains(e);
        calling(e);
        ways(e);
        others(e);
        time(e);
    }

    private static void tolls(Edges e) {
        e.edge(12, "Toll of names: at a bridge each must leave one name of his own, till he has none;", TOWN, """
            cross 0 0 -> 0
            cross 0 0 -> 1
            cross 1 0 -> 1
            cross 0 0 -> 2
            of 0 2 -> 0
            cross 0 0 -> 100
            cross 0 2 -> 100
            of 1 6 -> {3}
            """);
        e.edge(3, "people with names by kinds and lengths,", TOWN, """
            look 20 -> 0
            look 21 -> 1
            look 23 -> 2
            look 24 -> 3
            look 42 -> 10
            look 44 -> 12
            of 0 3 -> 18
            of 1 3 -> 6
            of 2 3 -> 16
            law keep when kind=0; -> 1
            cross 0 0 -> 1
            law keep when letters<9; -> 1
            cross 0 0 -> 2
            """);
        e.edge(16, "keepers who keep what was left,", TOWN, """
            cross 0 0 -> 0
            cross 2 0 -> 4
            cross 2 0 -> 0
            kept 0 0 -> 2
            kept 0 4 -> 1
            kept 0 1,2,3 -> 0
            kept 1..3 0..4 -> 0
            """);
        e.edge(10, "a law told as a text by which a name may be left,", TOWN, """
            law leave when kind=1 or bridge=2; keep; -> 2
            cross 0 0 -> 1
            cross 0 0 -> -2
            cross 1 2 -> 1
            cross 1 3 -> -2
            law -> 0
            cross 0 0 -> 0
            cross 1 3 -> 3
            """);
        e.edge(12, "a ferry for the short,", TOWN, """
            set 1 0 6
            cross 1 0 -> 100
            cross 0 0 -> 0
            cross 2 0 -> 4
            cross 2 0 -> 100
            of 1 6 -> {1,3}
            of 2 6 -> {0}
            """);
    }

    private static void gains(Edges e) {
        e.edge(13, "names that are stolen from keepers,", TOWN, """
            cross 0 0 -> 0
            take 1 0 0 -> true
            kept 0 0 -> 0
            of 1 12 -> 0
            of 1 4 -> {1,3}
            of 0 6 -> {1,2}
            take 2 0 0 -> false
            """);
        e.edge(14, "names that grow back by gossip;", TOWN, """
            cross 0 0 -> 0
            day -> 0
            set 0 0 1000
            day -> 1
            of 0 12 -> 0
            kept 0 0 -> 1
            day -> 0
            """);
        e.edge(17, "a book of tolls, each cry led to one;", TOWN, """
            cross 0 0 -> 0
            cross 1 0 -> 1
            day -> 0
            cross 0 1 -> 1
            look 4 -> 3
            book 0 0..2 -> 0
            book 1 0 -> 1
            book 1 1 -> 0
            book 1 2 -> 1
            book 2 0 -> 0
            book 2 1..3 -> 1
            """);
    }

    private static void calling(Edges e) {
        e.edge(18, "who answers when a name is shouted,", TOWN, """
            called 0 1 -> {0,1}
            called 0 0 -> {0}
            called 1 0 -> {2}
            called 1 1 -> {}
            """);
        e.edge(19, "who can be called alone,", TOWN, """
            alone 0 -> {0,1}
            alone 1 -> {2}
            alone 2 -> {}
            law leave when kind=2; keep;
            cross 1 2 -> 3
            set 3 1 0
            alone 0 -> {0}
            """);
        e.edge(21, "cousins who left the same and what each would inherit;", TOWN, """
            cross 0 0 -> 0
            cross 0 0 -> 1
            cross 1 0 -> 1
            cousins 0 -> {1}
            estate 0 -> 100
            cross 2 0 -> 4
            cousins 2 -> {}
            estate 2 -> NONE
            cross 2 0 -> 0
            cousins 0 -> {1,2}
            cousins 1 -> {0,2}
            cousins 2 -> {0,1}
            estate 0 -> 50
            estate 1 -> 25
            estate 2 -> 4
            """);
    }

    private static void ways(Edges e) {
        e.edge(22, "in thought what one is still called behind some bridges,", TOWN, """
            behind 0 2 NONE NONE NONE NONE -> {1,2}
            behind 0 0 1 NONE NONE NONE -> {2}
            behind 0 0 1 3 NONE NONE -> {}
            of 0 6 -> {0,1,2}
            """);
        e.edge(23, "the way that costs fewest names,", TOWN, """
            best 0 3 0 -> 2
            best 0 3 10 -> 2
            best 0 3 11 -> 3
            # at bridge 0 the longest name goes, and the ferry takes him farther
            set 1 0 8
            law keep when bridge=0 and letters<9;
            best 0 3 0 -> 1
            best 0 3 1 -> 3
            best 0 3 10 -> 0
            best 0 3 11 -> 1
            best 0 3 12 -> 3
            """);
        e.edge(25, "the fewest christenings for a round of bridges,", TOWN, """
            law keep when names=1;
            round 0 -> 1
            plan 1 0 -> 0
            round 0 -> 2
            plan 1 0 -> 1
            plan 1 10 -> 0
            round 0 -> 3
            plan 1 0 -> 2
            plan 1 10 -> 0
            plan 1 11 -> 2
            """);
    }

    private static void others(Edges e) {
        e.edge(26, "whom one could be for a night and by how many thefts,", TOWN, """
            night 1 0 -> NONE
            cross 0 0 -> 0
            night 1 0 -> NONE
            law leave when letters=10; keep;
            cross 0 0 -> 2
            # of what he has now the thief has all
            night 1 0 -> 0
            christen 0 0,2 -> true
            night 1 0 -> 2
            night 0 1 -> NONE
            """);
        e.edge(27, "in what order some should cross so that most can be called;", TOWN, """
            order {0,1} 0 0 -> 2
            order {0,1} 0 10 -> 0
            # person 0 gets through only behind person 1
            law keep when kind=0; keep when kind=1 and kept=0 and names=3;
            order {0,1} 0 0 -> 2
            order {0,1} 0 10 -> 1
            order {0,1} 0 11 -> 0
            order {0} 0 0 -> NONE
            """);
    }

    private static void time(Edges e) {
        e.edge(14, "days as they went,", TOWN, """
            3* day -> 0
            look 3 -> 3
            cross 0 0 -> 0
            law keep when day<5;
            day -> 0
            cross 1 0 -> -2
            day -> 0
            cross 1 0 -> 1
            book 0 3 -> 3
            book 1 3 -> 5
            """);
        e.edge(28, "tolls undone,", TOWN, """
            cross 0 0 -> 0
            cross 1 2 -> 1
            undo -> true
            of 1 0 -> 0
            of 1 10 -> 1
            kept 2 1 -> 0
            look 4 -> 1
            undo -> true
            of 0 10 -> 0
            of 0 5 -> {}
            kept 0 0 -> 0
            look 4 -> 0
            undo -> false
            """);
        e.edge(29, "and an image from which all goes on.", TOWN, """
            state 42 -> 0
            set 0 0 1000
            cross 0 0 -> 0
            cross 0 1 -> 1
            image true -> true
            day -> 1
            of 0 11 -> 0
            look 5 -> 378494188
            image false -> true
            look 3,10 -> 0
            of 0 2 -> 1
            day -> 1
            of 0 11 -> 0
            look 5 -> 378494188
            """);
    }
}
