/** Edges of promises 1 to 7: a new object, and what is told of draws, names, people, bridges and christenings. */
final class EdgesOfTelling {
    private EdgesOfTelling() { }

    static void all(Edges e) {
        newObject(e);
        state(e);
        name(e);
        person(e);
        bridge(e);
        christen(e);
        set(e);
    }

    private static void newObject(Edges e) {
        e.edge(1, "Nobody there.", """
            look 1 -> 0
            of 0,7,-1 0..6 -> NONE
            of 0 10 -> NONE
            alone 0..7 -> {}
            cousins 0 -> NONE
            estate 0 -> NONE
            cross 0 0 -> NONE
            take 0 0 0 -> false
            behind 0 0 NONE NONE NONE NONE -> NONE
            best 0 1 0 -> NONE
            plan 0 0 -> NONE
            night 0 1 -> NONE
            order {} 0 0 -> NONE
            order {0} 0 0 -> NONE
            day -> 0
            """);
        e.edge(1, "The constants: NONE = -1: None.", "name 4 1 -> -1", "of 0 0 -> -1", "book 0 0 -> -1");
        e.edge(1, "An object is used for at most 512 calls after it has been made; what later calls answer is free.", """
            name 0 1 -> 0
            509* state 9
            look 0 -> 1
            # the last one that counts
            name 1 2 -> 1
            """);
    }

    private static void state(Edges e) {
        e.edge(2, "STATE of draws (an int, 0 at first)", "look 5 -> 0", "state 7 -> 0");
        e.edge(2, "STATE is told: what it was.", """
            state MAX -> 0
            state MIN -> MAX
            look 5 -> MIN
            state -1 -> MIN
            state 0 -> -1
            state 0 -> 0
            look 5 -> 0
            """);
    }

    private static void name(Edges e) {
        e.edge(3, "NAMES 0 .. 19 as they come:", """
            name 1 2 -> 0
            name 2 3 -> 1
            17* name 0 1
            name 3 12 -> 19
            look 0 -> 20
            look 20 -> 1
            look 40 -> 2
            look 39 -> 3
            look 59 -> 12
            """);
        e.edge(3, "a KIND 0 .. 3,", """
            name -1,MIN 5 -> NONE
            name 4,MAX 5 -> NONE
            name 0 5 -> 0
            name 3 5 -> 1
            look 20 -> 0
            look 21 -> 3
            """);
        e.edge(3, "LETTERS 1 .. 12.", """
            name 2 0,-1,MIN -> NONE
            name 2 13,MAX -> NONE
            name 2 1 -> 0
            name 2 12 -> 1
            look 40 -> 1
            look 41 -> 12
            """);
        e.edge(3, "A NAME: its number;", """
            name 0 1 -> 0
            name 9 9 -> NONE
            # one that can't be takes no number
            name 0 1 -> 1
            look 0 -> 2
            """);
        e.edge(3, "NONE if one can't be, or there are twenty.", """
            name -1 13 -> NONE
            look 0 -> 0
            19* name 0 1
            look 0 -> 19
            name 0 2 -> 19
            name 3 3 -> NONE
            name 4 0 -> NONE
            look 0 -> 20
            look 39 -> 0
            look 59 -> 2
            """);
    }

    private static void person(Edges e) {
        e.edge(4, "PLACES 0 .. 7.", """
            person -1,8,MIN,MAX 5 -> NONE
            person 0 5 -> 0
            person 7 5 -> 1
            of 0 0 -> 0
            of 1 0 -> 7
            """);
        e.edge(4, "PEOPLE 0 .. 7 as they come: a PLACE,", """
            person 3 1 -> 0
            person 2 1 -> 1
            5* person 4 1
            person 1 1 -> 7
            of 0 0 -> 3
            of 1 0 -> 2
            of 7 0 -> 1
            """);
        e.edge(4, "COIN 0 .. 9999;", """
            person 3 -1,MIN -> NONE
            person 3 10000,MAX -> NONE
            person 3 0 -> 0
            person 3 9999 -> 1
            of 0 1 -> 0
            of 1 1 -> 9999
            """);
        e.edge(4, "A PERSON: the number;", """
            person 0 1 -> 0
            person 8 1 -> NONE
            # one that can't be takes no number
            person 0 1 -> 1
            look 1 -> 2
            """);
        e.edge(4, "NONE if one can't be, or there are eight.", """
            person 8 10000 -> NONE
            look 1 -> 0
            7* person 0 1
            person 6 2 -> 7
            person 0 1 -> NONE
            person -1 -1 -> NONE
            look 1 -> 8
            of 7 0 -> 6
            of 7 1 -> 2
            of 8 0 -> NONE
            """);
    }

    private static void bridge(Edges e) {
        e.edge(5, "BRIDGES 0 .. 11 as they come:", """
            bridge 3 4 -> 0
            bridge 4 3 -> 1
            9* bridge 0 1
            bridge 7 0 -> 11
            look 60 -> 3
            look 61 -> 4
            look 62 -> 4
            look 63 -> 3
            look 82 -> 7
            look 83 -> 0
            """);
        e.edge(5, "two unlike PLACES;", """
            bridge 0 0 -> NONE
            bridge 7 7 -> NONE
            bridge -1,8,MIN,MAX 3 -> NONE
            bridge 3 -1,8,MIN,MAX -> NONE
            bridge 0 7 -> 0
            bridge 7 0 -> 1
            """);
        e.edge(5, "its KEEPER keeps of each NAME how many were left there and not taken (0 at first).", """
            2* name 0 1
            12* bridge 0 1
            kept 0..11 0,1 -> 0
            person 0 0
            person 0 0
            christen 0,1 0
            cross 0 11 -> 0
            cross 1 11 -> 0
            kept 11 0 -> 2
            kept 11 1 -> 0
            kept 10 0 -> 0
            take 0 11 0 -> true
            kept 11 0 -> 1
            """);
        e.edge(5, "A BRIDGE: its number;", """
            bridge 0 1 -> 0
            bridge 1 1 -> NONE
            # one that can't be takes no number
            bridge 0 1 -> 1
            look 2 -> 2
            """);
        e.edge(5, "NONE if one can't be, or there are twelve.", """
            bridge 8 8 -> NONE
            look 2 -> 0
            11* bridge 0 1
            bridge 2 3 -> 11
            bridge 4 5 -> NONE
            bridge 4 4 -> NONE
            look 2 -> 12
            look 82 -> 2
            look 83 -> 3
            """);
    }

    private static void christen(Edges e) {
        e.edge(6, "each HAS a row of NAMES, at most 9, unlike ones (empty at first),", """
            10* name 0 1
            person 0 0
            of 0 2 -> 0
            of 0 6 -> {}
            of 0 10 -> NONE
            christen 0 0..8 -> true
            of 0 2 -> 9
            christen 0 9 -> false
            christen 0 0..8 -> false
            of 0 6 -> {0..8}
            of 0 18 -> 8
            of 0 19 -> NONE
            """);
        e.edge(6, "and was CHRISTENED some (a set).", """
            3* name 0 1
            bridge 0 1
            person 0 0
            of 0 4 -> {}
            christen 0 2 -> true
            of 0 4 -> {2}
            cross 0 0 -> 2
            # left, but christened so all the same; and christened so again it is no other set
            of 0 4 -> {2}
            christen 0 2 -> true
            of 0 4 -> {2}
            christen 0 0 -> true
            of 0 4 -> {0,2}
            """);
        e.edge(6, "To be CHRISTENED: a NAME that one has not comes behind one's row.", """
            4* name 0 1
            bridge 0 1
            person 0 0
            christen 0 3,0,2 -> true
            of 0 10 -> 3
            of 0 11 -> 0
            of 0 12 -> 2
            christen 0 3 -> false
            cross 0 0 -> 3
            christen 0 3 -> true
            of 0 10 -> 0
            of 0 11 -> 2
            of 0 12 -> 3
            """);
        e.edge(6, "A PERSON is CHRISTENED: true;", """
            20* name 0 1
            8* person 0 0
            christen 0,7 0,19 -> true
            of 0,7 6 -> {0,19}
            of 0,7 4 -> {0,19}
            of 1..6 6 -> {}
            """);
        e.edge(6, "false if one can't be (he has it, or nine).", """
            10* name 0 1
            2* person 0 0
            christen 2,-1,MIN,MAX 0 -> false
            christen 1 10,-1,32,MIN,MAX -> false
            christen 1 1 -> true
            christen 1 1 -> false
            christen 1 2..8 -> true
            of 1 2 -> 8
            christen 1 9 -> true
            christen 1 0 -> false
            of 1 2 -> 9
            of 1 4 -> {1..9}
            of 0 2 -> 0
            """);
    }

    private static void set(Edges e) {
        e.edge(7, "GOSSIP 0 .. 1000,", """
            set 0 0 -1,MIN -> false
            set 0 0 1001,MAX -> false
            look 6 -> 0
            set 0 0 1000 -> true
            look 6 -> 1000
            set 0 0 1001,-1 -> false
            look 6 -> 1000
            set 0 0 0 -> true
            look 6 -> 0
            """);
        e.edge(7, "FERRY 0 .. 99 (0 each at first).", """
            look 6,7 -> 0
            set 1 0 -1,MIN -> false
            set 1 0 100,MAX -> false
            look 7 -> 0
            set 1 0 99 -> true
            look 7 -> 99
            set 1 0 0 -> true
            look 7 -> 0
            """);
        e.edge(7, "What 0 GOSSIP, 1 FERRY (PERSON not asked);", """
            set 0 0 5 -> true
            set 1 0 6 -> true
            look 6 -> 5
            look 7 -> 6
            person 0 0
            set 0 -1,1,8,MIN,MAX 7 -> true
            set 1 -1,1,8,MIN,MAX 8 -> true
            look 6 -> 7
            look 7 -> 8
            of 0 0,1 -> 0
            """);
        e.edge(7, "2 COIN,", """
            2* person 3 5
            set 2 0 -1,10000,MIN,MAX -> false
            of 0 1 -> 5
            set 2 0 9999 -> true
            of 0 1 -> 9999
            set 2 0 0 -> true
            of 0 1 -> 0
            of 1 1 -> 5
            of 0 0 -> 3
            """);
        e.edge(7, "3 PLACE of a PERSON: true;", """
            2* person 3 5
            set 3 0 -1,8,MIN,MAX -> false
            of 0 0 -> 3
            set 3 0 7 -> true
            of 0 0 -> 7
            set 3 0 0 -> true
            of 0 0 -> 0
            of 1 0 -> 3
            of 0 1 -> 5
            """);
        e.edge(7, "false if one can't be, or another what.", """
            set 2,3 0 1 -> false
            2* person 3 5
            set 2,3 2,-1,MIN,MAX 1 -> false
            set -1,4,10,MIN,MAX 0 1 -> false
            of 0,1 0 -> 3
            of 0,1 1 -> 5
            look 6,7 -> 0
            """);
    }
}
