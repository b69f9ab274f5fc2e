/** Edges of promises 22 to 27: what is asked in thought, and of which nothing stays. */
final class EdgesOfThought {
    /** Bridges 0 1 2 round the places 0 1 2, bridge 3 apart; person 0 at place 0 has names 0 to 4 of 1 to 5 letters. */
    private static final String RING = """
        name 0 1
        name 1 2
        name 2 3
        name 0 4
        name 1 5
        name 2 6
        bridge 0 1
        bridge 1 2
        bridge 2 0
        bridge 3 4
        person 0 0
        christen 0 0..4
        """;
    /** Bridges 0 to 6 in a row from place 0 to place 7; person 0 at place 0 has nine names. */
    private static final String ROAD = """
        12* name 0 1
        bridge 0 1
        bridge 1 2
        bridge 2 3
        bridge 3 4
        bridge 4 5
        bridge 5 6
        bridge 6 7
        person 0 0
        christen 0 0..8
        """;

    private EdgesOfThought() { }

    static void all(Edges e) {
        thought(e);
        behind(e);
        behindWhatCantBe(e);
        best(e);
        allThereCanBe(e);
        bestOfSeveral(e);
        round(e);
        plan(e);
        planOfSeveral(e);
        night(e);
        order(e);
        orderOfSeveral(e);
        orderThatCantBe(e);
    }

    private static void thought(Edges e) {
        e.edge(22, "IN THOUGHT (nothing of it stays):", RING, """
            person 0 0
            christen 1 0,5
            cross 1 0 -> 0
            round 0
            round 1
            state 77
            image true
            feed 0 0 0 0 0
            behind 0 0 1 2 0 1 -> {}
            behind 0 0 1 2 0 3 -> NONE
            best 0 2 0 -> 1
            plan 0 0 -> 0
            night 1 0 -> NONE
            order {0} 0 0 -> 1
            of 0 0 -> 0
            of 0 6 -> {0..4}
            of 0 5 -> {}
            of 0 4 -> {0..4}
            kept 0 0 -> 1
            kept 1 0..5 -> 0
            look 4 -> 1
            look 5 -> 77
            look 9 -> 2
            look 10 -> 1
            # nor where one gets stuck
            end 0 -> true
            law keep when names<4;
            behind 0 0 1 2 0 1 -> -2
            best 0 2 0 -> 1
            plan 0 0 -> 0
            law keep;
            behind 0 0 1 2 0 1 -> -2
            best 0 2 0 -> NONE
            plan 0 0 -> NONE
            order {0} 0 0 -> NONE
            of 0 0 -> 0
            of 0 6 -> {0..4}
            kept 0,1 1 -> 0
            look 10 -> 1
            """);
    }

    private static void behind(Edges e) {
        e.edge(22, "BEHIND some BRIDGES (1 to 5 in a row):", RING, """
            behind 0 0 NONE NONE NONE NONE -> {1..4}
            behind 0 0 1 NONE NONE NONE -> {2..4}
            behind 0 0 1 2 NONE NONE -> {3,4}
            behind 0 0 1 2 2 NONE -> {4}
            behind 0 0 1 2 2 1 -> {}
            # the same bridge there and back
            behind 0 0 0 0 0 0 -> {}
            """);
        e.edge(22, "the set of NAMES that one HAS then, if one gets through.", RING, """
            set 1 0 9
            # fifteen letters, then fourteen, twelve, and nine are free
            behind 0 0 1 2 0 1 -> {3,4}
            law keep when letters<3;
            behind 0 0 1 NONE NONE NONE -> {0,1,4}
            behind 0 0 1 2 0 1 -> {0,1,4}
            set 1 0 15
            law keep;
            behind 0 0 1 2 0 1 -> {0..4}
            """);
        e.edge(22, "BEHIND BRIDGES a, b, c, d, e (NONE: no more; those behind not asked):", RING, """
            behind 0 0 NONE 0 0 0 -> {1..4}
            behind 0 0 NONE 3 99 MIN -> {1..4}
            behind 0 0 1 NONE 0 3 -> {2..4}
            behind 0 0 1 2 NONE MAX -> {3,4}
            law keep when names<5;
            behind 0 0 NONE 1 2 0 -> {1..4}
            behind 0 0 1 NONE 3 99 -> -2
            """);
        e.edge(22, "what one HAS, as a set;", ROAD, """
            behind 0 0 1 2 3 4 -> {5..8}
            person 7 0
            behind 1 6 5 4 3 2 -> {}
            """);
        e.edge(22, "-2 if one does not get through;", RING, """
            law keep when names=5;
            behind 0 0 NONE NONE NONE NONE -> -2
            law keep when names=4;
            behind 0 0 NONE NONE NONE NONE -> {1..4}
            behind 0 0 1 NONE NONE NONE -> -2
            law keep when names=3;
            behind 0 0 1 NONE NONE NONE -> {2..4}
            behind 0 0 1 2 NONE NONE -> -2
            law keep when names=2;
            behind 0 0 1 2 0 NONE -> -2
            law keep when names=1;
            behind 0 0 1 2 0 NONE -> {4}
            behind 0 0 1 2 0 1 -> -2
            """);
    }

    private static void behindWhatCantBe(Edges e) {
        String rows = """
            behind 0 NONE NONE NONE NONE NONE -> NONE
            behind 0 NONE 0 1 2 0 -> NONE
            # not from there, as the first to the fifth
            behind 0 1 NONE NONE NONE NONE -> NONE
            behind 0 0 2 NONE NONE NONE -> NONE
            behind 0 0 1 0 NONE NONE -> NONE
            behind 0 0 1 2 1 NONE -> NONE
            behind 0 0 1 2 0 2 -> NONE
            # no such bridge, as the first to the fifth
            behind 0 4,-2,99,MIN,MAX NONE NONE NONE NONE -> NONE
            behind 0 0 4,-2,MIN,MAX NONE NONE NONE -> NONE
            behind 0 0 1 4,-2,MIN,MAX NONE NONE -> NONE
            behind 0 0 1 2 4,-2,MIN,MAX NONE -> NONE
            behind 0 0 1 2 0 4,-2,MIN,MAX -> NONE
            behind 1,-1,8,MIN,MAX 0 NONE NONE NONE NONE -> NONE
            """;
        e.edge(22, "NONE if one can't be (none; not from where one is then).", RING, rows);
        // a row that can't be is none also where one would be stuck before
        e.edge(22, "NONE if one can't be (none; not from where one is then).", RING, "law keep;", rows,
            "law keep when names=4;", rows, "law", "set 1 0 99", rows);
    }

    private static void best(Edges e) {
        e.edge(23, "BEST way to a PLACE, to no PLACE twice:", RING, """
            bridge 1 5
            # at place 1 with 4 names one can't leave one for place 5; round by 2 one would come to 1 with 3
            law keep when bridge=4 and names=4;
            behind 0 2 1 4 NONE NONE -> {3,4}
            best 0 5 1 -> 3
            best 0 5 10 -> 2
            # who comes to some place twice would get through
            law keep when bridge=4 and names>1;
            behind 0 2 1 1 1 4 -> {}
            best 0 5 0,1,10 -> NONE
            """);
        e.edge(23, "BEST to a PLACE what 0 how many NAMES are left, 1 how many BRIDGES, 10 + i the i-th.", ROAD, """
            best 0 1 0,1 -> 1
            best 0 1 10 -> 0
            best 0 1 11 -> NONE
            # the longest way that can be
            best 0 7 0,1 -> 7
            best 0 7 10 -> 0
            best 0 7 11 -> 1
            best 0 7 15 -> 5
            best 0 7 16 -> 6
            best 0 7 17 -> NONE
            # free ones cost nothing, but they count
            set 1 0 4
            best 0 7 0 -> 5
            best 0 7 1 -> 7
            set 1 0 9
            best 0 7 0 -> 0
            best 0 7 1 -> 7
            """);
        e.edge(23, "NONE if there is no way, one is there, one can't be, or another what (none such).", RING, """
            best 0 3,4,7 0,1,10 -> NONE
            best 0 0 0,1,10 -> NONE
            best 0 8,-1,MIN,MAX 0,1,10 -> NONE
            best 1,-1,8,MIN,MAX 1 0,1,10 -> NONE
            best 0 1 2..9,-1,11,12,17,20,MIN,MAX -> NONE
            best 0 1 0,1 -> 1
            # a way, but nobody gets through
            law keep;
            best 0 1 0,1,10 -> NONE
            # one that has no names gets through
            law
            person 0 0
            best 1 1 0 -> 0
            best 1 1 1 -> 1
            set 3 0 7
            best 0 0 0 -> NONE
            """);
    }

    /** With as many names, people and bridges as there can be, so that the last ones are asked, too. */
    private static void allThereCanBe(Edges e) {
        String all = """
            20* name 0 1
            11* bridge 0 1
            bridge 1 7 -> 11
            8* person 0 0
            christen 7 19,18,17,16,15,14,13,12,11 -> true
            """;
        e.edge(22, "BEHIND some BRIDGES", all, """
            behind 7 10 11 11 10 NONE -> {11..15}
            behind 7 12 NONE NONE NONE NONE -> NONE
            """);
        e.edge(23, "BEST way to a PLACE,", all, """
            best 7 7 0,1 -> 2
            best 7 7 10 -> 0
            best 7 7 11 -> 11
            best 7 2..6 0 -> NONE
            """);
        e.edge(25, "PLAN for a ROUND", all, """
            set 3 7 1
            round 11 -> 1
            plan 7 0 -> 0
            law keep when bridge=11;
            plan 7 0 -> NONE
            christen 6 0 -> true
            round NONE
            round 0
            plan 6 0 -> 0
            law keep when names=1;
            plan 6 0 -> 1
            plan 6 10 -> 1
            """);
        e.edge(26, "A NIGHT as another one:", all, """
            christen 0 19 -> true
            night 6 0 -> NONE
            set 3 0 7
            cross 0 11 -> 19
            christen 0 19 -> true
            night 6 0 -> 1
            night 6 7 -> NONE
            night 7 0 -> 0
            """);
        e.edge(27, "ORDER of PEOPLE at a PLACE", all, """
            order {7} 10 0 -> 1
            order {2..7} 10 0 -> 1
            order {2..7} 10 15 -> 7
            order {2..7} 11 0 -> NONE
            """);
    }

    private static void bestOfSeveral(Edges e) {
        // to 2 by bridges 0 1, or by 2 3 4; the long name 0 can't be left at bridges 0 and 1, and without it all is free
        e.edge(23, "of all by which one gets through that by which the fewest NAMES are left;", """
            name 0 10
            2* name 0 1
            bridge 0 1
            bridge 1 2
            bridge 0 3
            bridge 3 4
            bridge 4 2
            person 0 0
            christen 0 0..2
            set 1 0 5
            law keep when letters=10 and bridge<2;
            best 0 2 0 -> 1
            best 0 2 1 -> 3
            best 0 2 10 -> 2
            best 0 2 11 -> 3
            best 0 2 12 -> 4
            best 0 2 13 -> NONE
            # by one that can't be gone nothing is saved
            law keep when letters=10 and bridge<2; keep when bridge=2;
            best 0 2 0,1 -> 2
            best 0 2 10 -> 0
            best 0 2 11 -> 1
            law keep when letters=10;
            best 0 2 0,1 -> 2
            """);
        e.edge(23, "of several that over the fewest BRIDGES;", """
            name 0 1
            bridge 0 1
            bridge 1 2
            bridge 2 3
            bridge 0 4
            bridge 4 3
            bridge 0 3
            person 0 0
            # all free: by 0 1 2, by 3 4 or by 5
            best 0 3 0 -> 0
            best 0 3 1 -> 1
            best 0 3 10 -> 5
            best 0 3 11 -> NONE
            best 0 4 10 -> 3
            # by either of the shorter ways one name is left
            christen 0 0
            best 0 3 0,1 -> 1
            best 0 3 10 -> 5
            law keep when bridge=5;
            best 0 3 0 -> 1
            best 0 3 1 -> 2
            best 0 3 10 -> 3
            best 0 3 11 -> 4
            law keep when bridge=5 or bridge=3;
            best 0 3 1 -> 3
            best 0 3 12 -> 2
            """);
        e.edge(23, "of several the first (BRIDGE by BRIDGE).", """
            bridge 0 1
            bridge 0 2
            bridge 2 3
            bridge 1 3
            bridge 3 1
            bridge 0 1
            person 0 0
            # by 0 3, 0 4, 1 2, 5 3, 5 4
            best 0 3 0 -> 0
            best 0 3 10 -> 0
            best 0 3 11 -> 3
            best 0 1 10 -> 0
            # from the other end: by 2 1, 3 0, 3 5, 4 0, 4 5
            set 3 0 3
            best 0 0 10 -> 2
            best 0 0 11 -> 1
            best 0 1 10 -> 3
            """);
    }

    private static void round(Edges e) {
        e.edge(24, "A BRIDGE comes behind the ROUND (NONE: it is empty then): how many it has;", RING, """
            round NONE -> 0
            round 0 -> 1
            round 1 -> 2
            round 1 -> 3
            look 9 -> 3
            # in this order: from place 0, and not from place 2
            plan 0 0 -> 0
            set 3 0 2
            plan 0 0 -> NONE
            round NONE -> 0
            look 9 -> 0
            plan 0 0 -> NONE
            round 1 -> 1
            plan 0 0 -> 0
            """);
        e.edge(24, "NONE if one can't be, or it has twelve.", "round 0 -> NONE", RING, """
            round 4,-2,11,12,MIN,MAX -> NONE
            look 9 -> 0
            11* round 0
            round 0 -> 12
            round 0 -> NONE
            round 4,-2 -> NONE
            look 9 -> 12
            plan 0 0 -> 0
            # a full one can be emptied
            round NONE -> 0
            round 3 -> 1
            """);
        e.edge(25, "PLAN for a ROUND (a row of BRIDGES, 12 at most):", ROAD, """
            12* round 0
            # nine tolls, and then he is free
            plan 0 0 -> 0
            round 0 -> NONE
            plan 0 0 -> 0
            law keep when names=1;
            plan 0 0 -> NONE
            """);
    }

    private static void plan(Edges e) {
        e.edge(25, "with which NAMES, all CHRISTENED now in their order by number,", RING, """
            round 0
            round 1
            # 5 comes behind the row, and is left at bridge 0; then one of his own at bridge 1
            law leave when bridge=0 and order=5; leave when bridge=1 and order=4; keep;
            plan 0 0 -> 1
            plan 0 10 -> 5
            person 0 0
            christen 1 5
            # behind 5 come 1 and 3, the lesser one in front
            law leave when bridge=0 and order=2 and letters=4; leave when bridge=1 and order=1 and letters=2; keep;
            plan 1 0 -> 2
            plan 1 10 -> 1
            plan 1 11 -> 3
            law leave when bridge=0 and order=1 and letters=4; leave when bridge=1 and order=1 and letters=2; keep;
            plan 1 0 -> NONE
            """);
        e.edge(25, "none of them had, one gets through:", RING, """
            round 0
            law leave when letters<6 and names=6; leave when letters=6; keep;
            plan 0 0 -> 1
            plan 0 10 -> 5
            # he has all there are
            christen 0 5
            plan 0 0 -> 0
            law keep;
            plan 0 0 -> NONE
            """);
        e.edge(25, "the fewest, 3 at most (and 9 in all);", ROAD, """
            person 0 0
            person 0 0
            christen 1 0,1,2,3,4,5
            christen 2 0,1,2,3,4,5,6
            law leave when names>6; keep;
            round 0
            plan 1 0 -> 1
            round 0
            plan 1 0 -> 2
            plan 2 0 -> 1
            round 0
            # six and three are nine, and seven and two
            plan 1 0 -> 3
            plan 1 10 -> 6
            plan 1 11 -> 7
            plan 1 12 -> 8
            plan 1 13 -> NONE
            plan 2 0 -> 2
            round 0
            # four are more than three, and ten more than nine
            plan 1 0 -> NONE
            plan 2 0 -> NONE
            plan 2 10 -> NONE
            """);
        e.edge(25, "3 at most", RING, """
            person 0 0
            christen 1 5
            law keep when letters=6;
            3* round 0
            plan 1 0 -> 3
            round 0
            # four more there are, and there would be room for them
            plan 1 0,10,11,12 -> NONE
            """);
        e.edge(25, "(and 9 in all);", ROAD, """
            # nine have room for none, eight for one
            round 0
            law leave when order=8 and letters=1 and names=9; keep;
            plan 0 0 -> 0
            person 0 0
            christen 1 0..7
            plan 1 0 -> 1
            plan 1 10 -> 8
            law leave when names=10 or order=9; keep;
            plan 0 0 -> NONE
            plan 1 0 -> NONE
            """);
    }

    private static void planOfSeveral(Edges e) {
        e.edge(25, "of several the first (the lesser numbers first);", ROAD, """
            name 1 1
            name 1 1
            name 2 1
            name 2 1
            name 1 1
            person 0 0
            christen 1 1
            round 0
            # 1 he has himself
            law leave when order>0; keep;
            plan 1 0 -> 1
            plan 1 10 -> 0
            law leave when kind=1; keep;
            plan 1 0 -> 1
            plan 1 10 -> 12
            law leave when kind=2; keep;
            plan 1 10 -> 14
            round 1
            law leave when kind=2 and bridge=0; leave when kind=1 and bridge=1; keep;
            plan 1 0 -> 2
            plan 1 10 -> 12
            plan 1 11 -> 14
            law leave when kind=1; keep;
            plan 1 10 -> 12
            plan 1 11 -> 13
            round 2
            plan 1 10 -> 12
            plan 1 11 -> 13
            plan 1 12 -> 16
            # the last three of all
            name 3 1
            name 3 1
            name 3 1
            law leave when kind=3; keep;
            plan 1 10 -> 17
            plan 1 11 -> 18
            plan 1 12 -> 19
            """);
        e.edge(25, "the lesser numbers first); NONE.", ROAD, """
            round 0
            plan 0 0 -> 0
            law keep;
            plan 0 0,10,11,12 -> NONE
            """);
        e.edge(25, "PLAN what 0 how many, 10 + i the i-th NAME.", RING, """
            round 0
            plan 0 0 -> 0
            plan 0 10 -> NONE
            law leave when letters=6; keep;
            plan 0 0 -> 1
            plan 0 10 -> 5
            plan 0 11 -> NONE
            """);
        e.edge(25, "NONE if there is none, the ROUND is empty, or not from where one is then, one can't be, or another what (none such).",
            RING, """
            plan 0 0,10 -> NONE
            round 0
            plan 1,-1,8,MIN,MAX 0,10 -> NONE
            plan 0 1..9,-1,10,11,13,MIN,MAX -> NONE
            plan 0 0 -> 0
            round 2
            # not from there as the second, as the first
            plan 0 0 -> NONE
            round NONE
            round 1
            plan 0 0 -> NONE
            # not even where all is free
            set 1 0 99
            plan 0 0 -> NONE
            set 3 0 1
            plan 0 0 -> 0
            11* round 1
            plan 0 0 -> 0
            round NONE
            11* round 1
            round 0
            # as the twelfth
            plan 0 0 -> NONE
            round NONE
            10* round 1
            round 0
            round 2
            plan 0 0 -> 0
            round NONE
            plan 0 0 -> NONE
            """);
    }

    private static void night(Edges e) {
        String thieves = """
            20* name 0 1
            bridge 6 7
            bridge 5 6
            person 0 0
            person 1 0
            person 6 0
            christen 0 0
            christen 1 0,18,19
            christen 2 18,19
            """;
        e.edge(26, "A NIGHT as another one: how many NAMES that he HAS one has not:", thieves, """
            cross 2 0 -> 18
            cross 2 0 -> 19
            night 0 1 -> 2
            night 1 0 -> 0
            # who has none
            night 0,1 2 -> 0
            night 2 0 -> NONE
            christen 0 18
            night 0 1 -> 1
            # names of his own count for nothing but the nine
            christen 0 1,2,3
            night 0 1 -> 1
            """);
        e.edge(26, "each must be taken from some KEEPER who has it (where one is does not matter);", thieves, """
            night 0 1 -> NONE
            cross 2 0 -> 18
            night 0 1 -> NONE
            set 3 2 5
            # one from the one, one from the other
            cross 2 1 -> 19
            night 0 1 -> 2
            set 3 0 2..7
            night 0 1 -> 2
            # one that was taken again the keeper has no more
            take 2 1 19 -> true
            night 0 1 -> NONE
            """);
        e.edge(26, "NONE, if one of them no KEEPER has, or one would have more than 9.", thieves, """
            cross 2 0 -> 18
            # 18 alone, then 19 alone
            night 0 1 -> NONE
            undo -> true
            law keep when order=0;
            cross 2 0 -> 19
            night 0 1 -> NONE
            law
            cross 2 0 -> 18
            christen 0 1..6
            of 0 2 -> 7
            night 0 1 -> 2
            christen 0 7
            night 0 1 -> NONE
            # eight and one
            christen 0 18 -> true
            night 0 1 -> NONE
            cross 1 0 -> NONE
            set 3 1 6
            cross 1 0 -> 0
            cross 1 0 -> 18
            of 1 6 -> {19}
            night 0 1 -> NONE
            set 3 0 6
            cross 0 0 -> 0
            night 0 1 -> 1
            """);
        e.edge(26, "A NIGHT of a PERSON as another one: how many NAMES; NONE.", thieves, """
            2* cross 2 0
            night 0 0 -> NONE
            night 1 1 -> NONE
            night 2 2 -> NONE
            night 0 3,-1,8,MIN,MAX -> NONE
            night 3,-1,8,MIN,MAX 0 -> NONE
            night 3 3 -> NONE
            night 0 1 -> 2
            """);
    }

    private static void order(Edges e) {
        e.edge(27, "ORDER of PEOPLE at a PLACE who cross one BRIDGE one after the other (at most 6):", """
            8* name 0 1
            bridge 0 1
            8* person 1 0
            christen 0 0
            christen 1 1
            christen 2 2
            christen 3 3
            christen 4 4
            christen 5 5
            set 1 0 1
            order {0} 0 0 -> 1
            order {0..5} 0 0 -> 6
            order {0..5} 0 15 -> 5
            order {0..5} 0 16 -> NONE
            order {2..7} 0 0 -> 4
            order {0..6} 0 0 -> NONE
            order {0..7} 0 0 -> NONE
            order {1..7} 0 0,10 -> NONE
            """);
        // the keeper takes a name once; the others' names are asked for by "like", and who was there before by "kept"
        e.edge(27, "of all orders in which all get through", """
            3* name 0 1
            bridge 0 1
            3* person 0 0
            christen 0 0,1
            christen 1 0
            christen 2 1,0
            law keep when kept>0;
            # 0 first leaves 0, and 1 is stuck; so 1 first, then 0 leaves 1, and 2 is stuck
            order {0,1,2} 0 0 -> NONE
            order {0,1} 0 0 -> 1
            order {0,1} 0 10 -> 1
            order {0,1} 0 11 -> 0
            christen 2 2
            # now 2 leaves 2 as the last
            order {0,1,2} 0 0 -> 1
            order {0,1,2} 0 10 -> 1
            order {0,1,2} 0 11 -> 0
            order {0,1,2} 0 12 -> 2
            """);
        e.edge(27, "that behind which most of them are ALONE among them (others not asked):", """
            3* name 0 1
            bridge 0 1
            2* person 0 0
            2* person 1 0
            christen 0 1,2
            christen 1 1,0,2
            christen 2 0,1,2
            christen 3 0,1,2
            law keep when kept>0;
            # 0 first: {2} and {1,2}, one alone; 1 first: {0,2} and {1}, both, whatever those over there are called
            order {0,1} 0 0 -> 2
            order {0,1} 0 10 -> 1
            order {0,1} 0 11 -> 0
            law
            order {2,3} 0 0 -> 0
            order {2,3} 0 10 -> 2
            order {2} 0 0 -> 1
            """);
    }

    private static void orderOfSeveral(Edges e) {
        e.edge(27, "that behind which most of them are ALONE among them", """
            name 0 1
            name 0 2
            bridge 0 1
            2* person 0 0
            christen 0 1,0
            christen 1 0,1
            law keep when letters=2 and order=0; keep when order=0 and kept=0;
            # 0 first: both leave 0 and none is alone; 1 first leaves 1, and both are
            order {0,1} 0 0 -> 2
            order {0,1} 0 10 -> 1
            order {0,1} 0 11 -> 0
            """);
        e.edge(27, "who cross one BRIDGE one after the other", """
            2* name 0 1
            2* bridge 0 1
            2* person 0 0
            christen 0 0,1
            christen 1 0
            law keep when bridge=0;
            order {0} 0 0 -> NONE
            order {0} 1 0 -> 1
            law keep when bridge=1;
            order {0} 0 0 -> 1
            order {0} 1 0 -> NONE
            # what one leaves the keeper has when the next one comes
            law keep when kept>0;
            order {0,1} 0,1 10 -> 1
            # and whom he was like he is like no more
            law leave when like=0; leave when order=0 and names=2; keep;
            order {0,1} 0,1 10 -> 0
            """);
        e.edge(27, "how many; the first (by who crosses, the lesser first).", """
            6* name 0 1
            bridge 0 1
            8* person 0 0
            # by no order is anybody alone
            order {1,3,4,7} 0 0 -> 0
            order {1,3,4,7} 0 10 -> 1
            order {1,3,4,7} 0 11 -> 3
            order {1,3,4,7} 0 12 -> 4
            order {1,3,4,7} 0 13 -> 7
            order {1,3,4,7} 0 14 -> NONE
            christen 1 0
            christen 3 0,1
            law keep when kept>0;
            # 1 must go before 3, and 3 then leaves 1
            order {1,3,4,7} 0 0 -> 1
            order {1,3,4,7} 0 10 -> 1
            order {1,3,4,7} 0 11 -> 3
            law leave when like>0 and letters=1; leave when kept>0; keep;
            order {1,3} 0 0 -> 1
            order {1,3} 0 10 -> 1
            christen 4 1
            law leave when like=0; leave when like=1 and names=2; keep;
            # 3 before 1; and 4 never
            order {1,3,4} 0 0,10 -> NONE
            order {1,3} 0 0 -> 1
            order {1,3} 0 10 -> 3
            order {1,3} 0 11 -> 1
            """);
        e.edge(27, "ORDER of a set of PEOPLE over a BRIDGE what 0 how many are ALONE, 10 + i who crosses as the i-th.", """
            2* name 0 1
            12* bridge 4 5
            8* person 5 0
            christen 7 0
            christen 6 1
            set 1 0 1
            order {6,7} 11 0 -> 2
            order {6,7} 11 10 -> 6
            order {6,7} 11 11 -> 7
            order {0,7} 11 0 -> 1
            order {7} 0 0 -> 1
            order {7} 0 10 -> 7
            """);
    }

    private static void orderThatCantBe(Edges e) {
        e.edge(27, "NONE if there is none, one can't be (not all at one PLACE of it; none, more than six), or another what.", """
            2* name 0 1
            bridge 0 1
            bridge 2 3
            7* person 0 0
            order {0,1} 0 0 -> 0
            order {} 0 0,10 -> NONE
            order {0..6} 0 0,10 -> NONE
            order {7} 0 0 -> NONE
            order {0,7} 0 0 -> NONE
            order {0,8} 0 0 -> NONE
            order {0,31} 0 0 -> NONE
            order -1,MIN,MAX,256,128 0 0 -> NONE
            order {0,1} 1 0 -> NONE
            order {0,1} 2,-1,12,MIN,MAX 0 -> NONE
            order {0,1} 0 1..9,-1,12,16,MIN,MAX -> NONE
            # one over there, one at neither
            set 3 1 1
            order {0,1} 0 0,10 -> NONE
            order {1} 0 0 -> 0
            set 3 1 2
            order {0,1} 0,1 0 -> NONE
            order {1} 0 0 -> NONE
            # nobody gets through
            christen 0 0
            law keep;
            order {0} 0 0,10 -> NONE
            order {0,2} 0 0,10,11 -> NONE
            order {2} 0 0 -> 0
            """);
    }
}
