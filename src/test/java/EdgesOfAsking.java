/** Edges of promises 18 to 21 and 30: who is called, who is alone, cousins and estates, and what can be looked at. */
final class EdgesOfAsking {
    /** Persons 0 to 7 left names {0} {0,1} {1,2} .. {6,7}: each is a cousin of the next one. */
    private static final String CHAIN = """
        8* name 0 1
        bridge 0 1
        8* person 0 9999
        christen 0 0
        christen 1 0,1
        christen 2 1,2
        christen 3 2,3
        christen 4 3,4
        christen 5 4,5
        christen 6 5,6
        christen 7 6,7
        2* cross 0..7 0
        """;

    private EdgesOfAsking() { }

    static void all(Edges e) {
        called(e);
        alone(e);
        cousins(e);
        estate(e);
        look(e);
    }

    private static void called(Edges e) {
        String some = """
            20* name 0 1
            3* person 7 0
            4* person 0 0
            person 7 0
            christen 0,2,7 19
            christen 3,7 0
            """;
        e.edge(18, "CALLED: who answers at a PLACE to a NAME: all there who have it.", some, """
            called 7 19 -> {0,2,7}
            called 0 19 -> {}
            called 7 0 -> {7}
            called 0 0 -> {3}
            called 5 0 -> {}
            """);
        e.edge(18, "CALLED, as a set;", some, """
            christen 1 19
            called 7 19 -> {0,1,2,7}
            set 3 0..7 3
            called 3 19 -> {0,1,2,7}
            called 7 19 -> {}
            """);
        e.edge(18, "NONE if there is none such.", "called 0 0 -> NONE", "name 0 1", "called 0 0 -> {}", """
            called -1,8,MIN,MAX 0 -> NONE
            called 0,7 1,-1,20,32,MIN,MAX -> NONE
            """);
    }

    private static void alone(Edges e) {
        e.edge(19, "ALONE: who there has a NAME that no other one there has.", """
            20* name 0 1
            5* person 7 0
            person 6 0
            christen 0 0,19
            christen 1 0,5
            christen 2 0
            christen 3 0,19
            christen 5 5,0
            # 1 has 5; 0 and 3 have 19 both, 4 has none, and 5 is elsewhere
            alone 7 -> {1}
            alone 6 -> {5}
            christen 4 19
            alone 7 -> {1}
            set 3 5 7
            alone 7 -> {}
            alone 6 -> {}
            christen 3 7
            alone 7 -> {3}
            """);
        e.edge(19, "ALONE, as a set;", """
            8* name 0 1
            8* person 0 0
            alone 0 -> {}
            christen 0 0
            christen 7 7
            alone 0 -> {0,7}
            christen 1 1
            christen 2 2
            christen 3 3
            christen 4 4
            christen 5 5
            christen 6 6
            alone 0 -> {0..7}
            christen 6 0
            alone 0 -> {1..7}
            alone 7 -> {}
            """);
        e.edge(19, "NONE if there is none such.", "alone -1,8,MIN,MAX -> NONE", "alone 0..7 -> {}");
    }

    private static void cousins(Edges e) {
        e.edge(20, "COUSINS: who left a NAME that a PERSON left, and their COUSINS, and so on (not he himself).", CHAIN, """
            cousins 0 -> {1..7}
            cousins 7 -> {0..6}
            cousins 3 -> {0,1,2,4,5,6,7}
            """);
        e.edge(20, "(not he himself)", "2* name 0 1", "bridge 0 1", "2* person 0 0", "christen 0,1 0", "christen 1 1", """
            cousins 0,1 -> {}
            cross 0 0 -> 0
            cousins 0 -> {}
            # who has a name has not left it
            cousins 1 -> {}
            cross 1 0 -> 0
            cousins 0 -> {1}
            cousins 1 -> {0}
            # what was taken was left
            take 0 0 0 -> true
            cousins 0 -> {1}
            cousins 1 -> {0}
            """);
        e.edge(20, "COUSINS, as a set;", CHAIN, "law", """
            # 4 and 0 have nothing left to leave
            cross 0,4 0 -> 100
            cousins 4 -> {0..3,5..7}
            """);
        e.edge(20, "NONE if there is none such.", "cousins 0 -> NONE", "2* person 0 0", """
            cousins 2,-1,8,MIN,MAX -> NONE
            cousins 1 -> {}
            """);
    }

    private static void estate(Edges e) {
        e.edge(21, "Quotients go downwards.", CHAIN, """
            # seven cousins
            estate 0 -> 1428
            set 2 0 7
            estate 0 -> 1
            set 2 0 13
            estate 0 -> 1
            set 2 0 6
            estate 0 -> 0
            set 2 0 0
            estate 0 -> 0
            """);
        e.edge(21, "ESTATE: his COIN by how many COUSINS he has (NONE without).", """
            name 0 1
            bridge 0 1
            3* person 0 9
            christen 0,1,2 0
            estate 0..2 -> NONE
            cross 0 0
            estate 0..2 -> NONE
            cross 1 0
            estate 0,1 -> 9
            estate 2 -> NONE
            cross 2 0
            estate 0..2 -> 4
            set 2 1 3
            estate 1 -> 1
            estate 0 -> 4
            """);
        e.edge(21, "ESTATE; NONE without COUSINS, or if there is none such.", "estate 0 -> NONE", "person 0 5", """
            estate 0 -> NONE
            estate 1,-1,8,MIN,MAX -> NONE
            """);
    }

    private static void look(Edges e) {
        e.edge(30, "What 0 NAMES, 1 PEOPLE, 2 BRIDGES, 3 DAY,", """
            look 0..3 -> 0
            20* name 0 1
            8* person 0 0
            12* bridge 0 1
            5* day
            look 0 -> 20
            look 1 -> 8
            look 2 -> 12
            look 3 -> 5
            """);
        e.edge(30, "4 lines of THE BOOK, 5 STATE, 6 GOSSIP, 7 FERRY,", """
            look 4..7 -> 0
            name 0 1
            bridge 0 1
            person 0 0
            christen 0 0
            cross 0 0
            state MIN
            set 0 0 1000
            set 1 0 99
            look 4 -> 1
            look 5 -> MIN
            look 6 -> 1000
            look 7 -> 99
            """);
        e.edge(30, "8 lines of THE LAW, 9 BRIDGES in the ROUND,", """
            look 8,9 -> 0
            bridge 0 1
            12* round 0
            look 9 -> 12
            """, "law " + "keep;".repeat(16) + " -> 16", "look 8 -> 16");
        e.edge(30, "10 what can be undone,", "look 10 -> 0", "bridge 0 1", "person 0 0", """
            cross 0 0
            look 10 -> 1
            6* cross 0 0
            look 10 -> 7
            cross 0 0
            look 10 -> 8
            cross 0 0
            look 10 -> 8
            undo -> true
            look 10 -> 7
            """);
        e.edge(30, "20 + n KIND, 40 + n LETTERS of NAME n,", """
            look 20,40 -> NONE
            name 3 12
            look 20 -> 3
            look 40 -> 12
            look 21,41 -> NONE
            18* name 1 2
            look 39,59 -> NONE
            name 2 7
            look 38 -> 1
            look 39 -> 2
            look 58 -> 2
            look 59 -> 7
            """);
        e.edge(30, "60 + 2 k, 61 + 2 k the PLACES of BRIDGE k.", """
            look 60,61 -> NONE
            bridge 7 0
            look 60 -> 7
            look 61 -> 0
            look 62,63 -> NONE
            10* bridge 1 2
            look 82,83 -> NONE
            bridge 4 3
            look 80 -> 1
            look 81 -> 2
            look 82 -> 4
            look 83 -> 3
            """);
        e.edge(30, "NONE for another what.", "20* name 0 1", "12* bridge 0 1", "8* person 0 0", """
            look -1,MIN,11..19,84,85,100,1000,MAX -> NONE
            """);
    }
}
