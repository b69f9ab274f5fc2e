/** Edges of promises 8 to 11: the tape, the law that is read from it, and its faults. */
final class EdgesOfText {
    /**
     * Person 0 has names 5 4 3 2 1 0 (of 6 .. 1 letters, kinds 2 1 0 2 1 0) at bridge 1 on day 3; name 2 two others
     * have, names 0 and 3 one other, and of name 4 the keeper has one.
     */
    private static final String WORLD = """
        name 0 1
        name 1 2
        name 2 3
        name 0 4
        name 1 5
        name 2 6
        bridge 2 3
        bridge 0 1
        person 0 100
        christen 0 5,4,3,2,1,0
        person 2 100
        christen 1 0,2,3
        person 3 100
        christen 2 2
        person 0 100
        christen 3 4
        cross 3 1 -> 4
        3* day
        """;

    private EdgesOfText() { }

    static void all(Edges e) {
        feed(e);
        end(e);
        text(e);
        lines(e);
        conditions(e);
        sums(e);
        tokens(e);
        numbers(e);
        facts(e);
        fault(e);
        faultsOfStanding(e);
        faultsOfMuch(e);
    }

    /** The name that person 0 leaves by a law, and then comes back for, so that the next law finds all as it was. */
    private static String leaves(int name, String law) {
        String back = name < 0 ? "" : "\nundo -> true";
        return "law " + law + "\ncross 0 1 -> " + name + back;
    }

    private static String leaves(String law) {
        return leaves(-2, law);
    }

    private static void feed(Edges e) {
        e.edge(8, "Twenty bytes come behind the TAPE, of each number the highest first: how many it has.", """
            # "leave;keep;" and blanks, then "leave;"
            feed 0x6c656176 0x653b6b65 0x65703b20 0x20202020 0x20202020 -> 20
            feed 0x6c656176 0x653b2020 0x20202020 0x20202020 0x20202020 -> 40
            text -> 3
            # "ke" and "ep;" stand together
            feed 0x20202020 0x20202020 0x20202020 0x20202020 0x20206b65 -> 20
            feed 0x65703b20 0x20202020 0x20202020 0x20202020 0x20202020 -> 40
            text -> 1
            # a byte above 127 is one byte as well
            feed 0x20202020 0x20202020 0x20202020 0x20202020 0x202020ff -> 20
            text -> NONE
            fault 1 -> 19
            feed 0xff202020 0x20202020 0x20202020 0x20202020 0x20202020 -> 20
            text -> NONE
            fault 1 -> 0
            feed 0x20202020 0x20ff2020 0x20202020 0x20202020 0x20202020 -> 20
            text -> NONE
            fault 1 -> 5
            feed 0x20202020 0x20202020 0x2020ff20 0x20202020 0x20202020 -> 20
            text -> NONE
            fault 1 -> 10
            feed 0x20202020 0x20202020 0x20202020 0x202020ff 0x20202020 -> 20
            text -> NONE
            fault 1 -> 15
            """);
        e.edge(8, "NONE, and nothing comes, if there would be more than 400.", """
            19* feed 0x20202020 0x20202020 0x20202020 0x20202020 0x20202020
            feed 0x20202020 0x20202020 0x20202020 0x20202020 0x20202020 -> 400
            feed 0 0 0 0 0 -> NONE
            feed 0x20202020 0x20202020 0x20202020 0x20202020 0x20202020 -> NONE
            end 401 -> false
            end 399 -> true
            feed 0 0 0 0 0 -> NONE
            end 400 -> false
            end 381 -> true
            feed 0 0 0 0 0 -> NONE
            end 382 -> false
            end 380 -> true
            # "keep;"
            feed 0x6b656570 0x3b202020 0x20202020 0x20202020 0x20202020 -> 400
            text -> 1
            """);
    }

    private static void end(Edges e) {
        e.edge(9, "The TAPE has its first n bytes alone: true;", """
            end 0 -> true
            # "keep;keep;keep;keep;"
            feed 0x6b656570 0x3b6b6565 0x703b6b65 0x65703b6b 0x6565703b -> 20
            end 20 -> true
            end 15 -> true
            end 16 -> false
            end 10 -> true
            end 15 -> false
            text -> 2
            feed 0x6b656570 0x3b6b6565 0x703b6b65 0x65703b6b 0x6565703b -> 20
            end 0 -> true
            end 1 -> false
            text -> 0
            # what is cut off does not come back
            feed 0x6b656570 0x3b6b6565 0x703b6b65 0x65703b6b 0x6565703b -> 20
            end 5 -> true
            feed 0x20202020 0x20202020 0x20202020 0x20202020 0x20202020 -> 25
            text -> 1
            """);
        e.edge(9, "false, changing nothing, if it has not so many, or n is below 0.", """
            end 1,MAX -> false
            end -1,MIN -> false
            feed 0x6b656570 0x3b6b6565 0x703b6b65 0x65703b6b 0x6565703b -> 20
            end 21,400,401,MAX -> false
            end -1,-20,MIN -> false
            feed 0x20202020 0x20202020 0x20202020 0x20202020 0x20202020 -> 40
            end 41 -> false
            end 15 -> true
            end -1,16 -> false
            text -> 3
            """);
    }

    private static void text(Edges e) {
        e.edge(10, "The TAPE, empty then, is THE LAW: how many lines.", """
            text -> 0
            law keep; -> 1
            look 8 -> 1
            end 1 -> false
            # an empty tape is a law, too
            text -> 0
            look 8 -> 0
            law leave;keep; -> 2
            end 0 -> true
            end 1 -> false
            """, "law " + "keep;".repeat(16) + " -> 16", "look 8 -> 16");
        e.edge(10, "NONE: a FAULT (it stays as it was).", WORLD, """
            law leave when letters=3; keep; -> 2
            law keep -> NONE
            look 8 -> 2
            # the tape is empty all the same
            end 1 -> false
            cross 0 1 -> 2
            undo -> true
            law leave when letters=1; leave when letters/0=1; -> NONE
            cross 0 1 -> 2
            look 8 -> 2
            """);
    }

    private static void lines(Edges e) {
        e.edge(10, "THE LAW is a TEXT (empty at first) = {(leave | keep) [when B] ;}.", """
            look 8 -> 0
            """, WORLD, """
            cross 0 1 -> 5
            undo -> true
            law \\x20\\n -> 0
            cross 0 1 -> 5
            undo -> true
            law leave; -> 1
            cross 0 1 -> 5
            undo -> true
            law keep; -> 1
            cross 0 1 -> -2
            bad 1 0 ;
            bad 1 0 when
            bad 1 0 kind=1;
            bad 1 0 (
            bad 1 0 7;
            bad 1 6 leave;;
            bad 1 5 keep keep;
            bad 1 5 keep kind=1;
            bad 1 6 leave not kind=1;
            bad 1 9 keep when;
            bad 1 9 keep when
            bad 1 10 keep when when;
            """);
        e.edge(10, "A NAME may be left at a BRIDGE by the first line whose B is so, or that has none (leave: yes; keep: no);",
            WORLD, leaves(5, "leave; keep;"), leaves("keep; leave;"),
            leaves(3, "keep when letters>4; leave when letters>3; keep;"),
            leaves(0, "leave when letters<2; keep when letters<7; leave;"),
            leaves(5, "keep when letters<3; leave when letters=6; keep;"),
            leaves(4, "keep when letters=6; leave when letters=6;"));
        e.edge(10, "yes without one:", WORLD, leaves(5, ""), leaves(4, "keep when kind=2;"),
            leaves(3, "keep when kind=2; keep when kind=1;"), leaves(5, "keep when 1=2; leave when 2=1;"));
    }

    private static void conditions(Edges e) {
        e.edge(10, "B = A {or A}.", WORLD, leaves(4, "leave when letters=5; keep;"),
            leaves(4, "leave when letters=1 or letters=5; keep;"),
            leaves(4, "leave when letters=5 or letters=1; keep;"),
            leaves(5, "leave when letters=6 or kind=2; keep;"),
            leaves(3, "leave when letters=9 or letters=4 or letters=8; keep;"),
            // and binds closer
            leaves(4, "leave when letters=5 or letters=1 and letters=2; keep;"),
            leaves(2, "leave when letters=1 and letters=2 or letters=3; keep;"), """
            bad 1 21 keep when letters=5or;
            bad 1 23 keep when letters=5 or or letters=1;
            bad 1 22 keep when letters=5 or
            """);
        e.edge(10, "A = C {and C}.", WORLD, leaves(3, "leave when letters<5 and kind=0; keep;"),
            leaves("leave when letters<5 and letters>5; keep;"),
            leaves(0, "leave when kind=0 and letters<9 and letters<4; keep;"),
            leaves("leave when 1=2 and 1=1; keep;"), leaves("leave when 1=1 and 1=2; keep;"), """
            bad 1 20 leave when kind=0and;
            bad 1 22 leave when kind=0 and and 1=1;
            bad 1 21 leave when kind=0 and
            """);
        e.edge(10, "C = E (< | = | >) E | not C | ( B ).", WORLD, leaves(0, "leave when letters<2; keep;"),
            leaves(5, "leave when letters>5; keep;"), leaves(1, "leave when letters=2; keep;"),
            leaves("leave when letters<1; keep;"), leaves("leave when letters>6; keep;"),
            leaves(4, "leave when not letters=6; keep;"), leaves(5, "leave when not not letters=6; keep;"),
            // of one claim only
            leaves(4, "leave when not letters=6 and letters>4; keep;"),
            leaves(3, "leave when not (letters=6 or letters=5); keep;"),
            leaves(0, "leave when (letters=5 or letters=1) and kind=0; keep;"),
            leaves(3, "leave when ((letters=4)); keep;"));
        e.edge(10, "C = E (< | = | >) E | not C | ( B ).", """
            bad 1 14 keep when kind;
            bad 1 15 keep when kind=;
            bad 1 15 keep when kind==1;
            bad 1 16 keep when kind=1=1;
            bad 1 16 keep when kind=1<2;
            bad 1 15 keep when kind<>1;
            bad 1 10 keep when =1;
            bad 1 13 keep when not;
            bad 1 14 keep when not and 1=1;
            bad 1 11 keep when (;
            bad 1 11 keep when ();
            bad 1 15 keep when (kind)=1;
            bad 1 17 keep when (kind=1;
            bad 1 16 keep when kind=1);
            bad 1 18 keep when (kind=1));
            bad 1 16 keep when kind=1(kind=1);
            bad 1 17 keep when kind=1 not kind=1;
            """);
        e.edge(10, "E = T {(+ | -) T}.", WORLD, leaves(4, "leave when 10-3-2=letters; keep;"),
            leaves(5, "leave when letters+1=7; keep;"), leaves(0, "leave when letters-5<0-3; keep;"),
            leaves(2, "leave when 1+1*2=letters; keep;"), leaves(2, "leave when 7-8/2=letters; keep;"),
            leaves(3, "leave when letters=1+2-3+4; keep;"), """
            bad 1 10 keep when -1<kind;
            bad 1 10 keep when +1=kind;
            bad 1 15 keep when kind=-1;
            bad 1 12 keep when 1+=kind;
            bad 1 12 keep when 1+-1=kind;
            bad 1 17 keep when kind=1-;
            bad 1 12 keep when 1 (+1)=kind;
            """);
    }

    private static void sums(Edges e) {
        e.edge(10, "T = U {* U | / NUMBER}.", WORLD, leaves(3, "leave when 2*letters=8; keep;"),
            leaves(5, "leave when letters*letters*1=36; keep;"), leaves(5, "leave when 7/2*2=letters; keep;"),
            leaves(1, "leave when 16/2/4=letters; keep;"), leaves(4, "leave when letters/5=1 and letters/6=0; keep;"), """
            bad 1 14 keep when day/kind=1;
            bad 1 14 keep when day/(1)=1;
            bad 1 14 keep when day/;
            bad 1 14 keep when day*/2=1;
            bad 1 14 keep when day/*2=1;
            bad 1 10 keep when *2=1;
            bad 1 10 keep when /2=1;
            bad 1 16 keep when day/2 kind=1;
            """);
        e.edge(10, "U = NUMBER | kind | letters | names | order | like | bridge | day | kept.",
            "law keep when 7=kind*letters+names-order*like+bridge-day*kept; -> 1", """
            bad 1 10 keep when leave=1;
            bad 1 10 keep when keep=1;
            bad 1 10 keep when or=1;
            bad 1 15 keep when kind=when;
            bad 1 12 keep when 3 4=1;
            bad 1 14 keep when day day=1;
            bad 1 12 keep when 1*not=1;
            bad 1 12 keep when 1*(1=1)=1;
            """);
        e.edge(10, "Ints, which wrap;", WORLD,
            // 2^31 - 1 and 2^31
            leaves(5, "leave when 9999*9999*21+9999*4790+8416>0; keep;"),
            leaves(5, "leave when 9999*9999*21+9999*4790+8417<0; keep;"),
            // - 2^31 and - 2^31 - 1
            leaves(5, "leave when 0-9999*9999*21-9999*4790-8417<0; keep;"),
            leaves(5, "leave when 0-9999*9999*21-9999*4790-8418>0; keep;"),
            leaves(5, "leave when 9999*9999*21>0 and 9999*9999*22<0; keep;"),
            // 2^16 * 2^16
            leaves(5, "leave when 4096*16*4096*16=0; keep;"),
            // these two are further apart than any int
            leaves(5, "leave when 9999*9999*22<9999*9999*21; keep;"),
            leaves("leave when 9999*9999*22>9999*9999*21; keep;"));
        e.edge(10, "/ goes towards 0.", WORLD,
            // 9999 * 9999 * 22 is -2095407274, by 4 it is -523851818 and a half
            leaves(5, "leave when 9999*9999*22/4=0-9999*9999*5-9999*2395-4208; keep;"),
            leaves(5, "leave when 7/2=3; keep;"), leaves(5, "leave when 1/2=0 and 0/5=0; keep;"),
            // - 2^31 by 1 and by 9999
            leaves(5, "leave when 4096*8*4096*16/1<0; keep;"),
            leaves(5, "leave when 4096*8*4096*16/9999=0-9999*21-4790; keep;"));
    }

    private static void tokens(Edges e) {
        e.edge(10, "TOKENS: letters as many as stand together are KEYWORDS (those told here) or none;", """
            law keep when kind=1or letters=2and not names=3; -> 1
            bad 1 0 leaves;
            bad 1 0 leav;
            bad 1 0 l
            bad 1 0 Leave;
            bad 1 0 KEEP;
            bad 1 0 leavekeep;
            bad 1 0 keepwhen 1=1;
            bad 1 5 keep whenkind=1;
            bad 1 10 keep when kinds=1;
            bad 1 10 keep when kin=1;
            bad 1 10 keep when notkind=1;
            bad 1 17 keep when kind=1 andy 1=1;
            bad 1 6 leave x;
            """, "bad 1 0 " + "k".repeat(400), "bad 1 400 " + "\\x20".repeat(395) + "leave");
        e.edge(10, "; + - * / ( ) < = > .", WORLD,
            leaves(1, "leave when(letters<3)and(2*letters/2+1-1>1)and not(letters=1);keep;"), """
            bad 1 5 leave,;
            bad 1 5 leave.
            bad 1 5 leave:
            bad 1 5 leave#;
            bad 1 5 leave!;
            bad 1 5 leave[;
            bad 1 5 leave_;
            bad 1 5 leave@;
            bad 1 5 leave`;
            bad 1 5 leave{;
            bad 1 6 leave;%
            bad 1 14 keep when kind&1=1;
            """);
        e.edge(10, "Blanks (32, 10) between.", """
            law \\n\\n leave \\n when\\nkind \\n=\\n 1 or\\n(1<2\\n)\\n; \\n -> 1
            bad 1 5 leave\\x09;
            bad 1 5 leave\\x0d;
            bad 1 5 leave\\x0b;
            bad 1 5 leave\\x0c;
            bad 1 5 leave\\x00;
            bad 1 5 leave\\xa0;
            bad 1 5 leave\\x1f;
            bad 1 5 leave\\x80;
            bad 1 6 leave;\\xff
            # a blank parts what stood together
            bad 1 0 lea ve;
            bad 1 17 keep when kind=1 2;
            """);
        e.edge(10, "digits as many as stand together NUMBERS of 1 to 4 digits or none;", WORLD,
            leaves(5, "leave when 0006=letters; keep;"), leaves(5, "leave when 9999-9993=letters; keep;"),
            leaves(5, "leave when letters-6=0000; keep;"), """
            law keep when 0=9; -> 1
            law keep when 1=9999; -> 1
            bad 1 15 keep when kind=10000;
            bad 1 15 keep when kind=00000;
            bad 1 15 keep when kind=00001;
            bad 1 10 keep when 12345678901234567890=kind;
            bad 1 14 keep when day/00001=1;
            bad 1 11 keep when 3kind=1;
            bad 1 14 keep when kind3=1;
            bad 1 4 keep1;
            """);
    }

    private static void numbers(Edges e) {
        // eight open brackets, in each an or and an and that wait, and a sum and a product at the bottom
        String deep = "letters=9 or letters<9 and (".repeat(8) + "1=2 or 1=1 and 2<1+letters*1" + ")".repeat(8);
        e.edge(10, "B = A {or A}.", WORLD, leaves(0, "keep when " + deep + ";"),
            leaves(3, "keep when letters>4; leave when " + deep + "; keep;"));
        e.edge(10, "A = C {and C}.", WORLD, "law keep when 1 =1" + "*1".repeat(192) + " ; -> 1", "cross 0 1 -> -2",
            "law keep when 1 =0" + "+1".repeat(192) + " ; -> 1", "cross 0 1 -> 5");
    }

    private static void facts(Edges e) {
        e.edge(10, "kind; letters;", WORLD, leaves(5, "leave when kind=2; keep;"), leaves(4, "leave when kind=1; keep;"),
            leaves(3, "leave when kind=0; keep;"), leaves(0, "leave when letters=1; keep;"),
            leaves("leave when letters=0 or letters=7 or kind=3; keep;"));
        e.edge(10, "names: how many one has;", WORLD, leaves(5, "leave when names=6; keep;"),
            leaves("leave when names=5 or names=7; keep;"), """
            law leave when names=6 or names<2; keep;
            cross 0 1 -> 5
            # five now
            cross 0 1 -> -2
            cross 2 0 -> 2
            """);
        e.edge(10, "order: its place in one's row (0 first);", WORLD, leaves(5, "leave when order=0; keep;"),
            leaves(4, "leave when order=1; keep;"), leaves(0, "leave when order=5; keep;"),
            leaves("leave when order=6 or order<0; keep;"), """
            law leave when order=2; keep;
            cross 0 1 -> 3
            # the row has closed up behind it
            cross 0 1 -> 2
            """);
        e.edge(10, "like: how many others have it;", WORLD, leaves(5, "leave when like=0; keep;"),
            leaves(3, "leave when like=1; keep;"), leaves(2, "leave when like=2; keep;"),
            leaves("leave when like>2; keep;"), """
            # person 0 is another one for person 1, who himself is none
            law leave when like=1; keep;
            cross 1 0 -> 0
            undo -> true
            law leave when like=2; keep;
            cross 1 0 -> 2
            undo -> true
            # all eight have name 5
            4* person 6 0
            christen 1,2,3,4,5,6,7 5 -> true
            law leave when like=7; keep;
            cross 0 1 -> 5
            cross 0 1 -> -2
            """);
        e.edge(10, "bridge: its number;", WORLD, leaves(5, "leave when bridge=1; keep;"),
            leaves("leave when bridge=0 or bridge=2; keep;"), """
            9* bridge 4 5
            bridge 0 7 -> 11
            law leave when bridge=11; keep;
            cross 0 1 -> -2
            cross 0 11 -> 5
            law leave when bridge=0; keep;
            cross 1 0 -> 0
            """);
        e.edge(10, "day; kept:", "name 0 1\nperson 0 0\nbridge 0 1\nchristen 0 0", """
            law leave when day=0; keep;
            cross 0 0 -> 0
            undo -> true
            day -> 0
            cross 0 0 -> -2
            law leave when day=1; keep;
            cross 0 0 -> 0
            """);
        e.edge(10, "kept: how many of it the KEEPER has.", WORLD, leaves(4, "leave when kept=1; keep;"),
            leaves(5, "leave when kept=0; keep;"), leaves("leave when kept=2; keep;"), """
            # the keeper of another bridge has none
            bridge 0 1 -> 2
            law leave when kept=1; keep;
            cross 0 2 -> -2
            cross 0 1 -> 4
            # it has two now
            christen 0 4 -> true
            cross 0 1,2 -> -2
            take 3 1 4 -> true
            cross 0 1 -> 4
            """);
    }

    private static void fault(Edges e) {
        e.edge(11, "Of the latest text(): what 0 the FAULT (0 without one),", """
            fault 0 -> 0
            text -> 0
            fault 0 -> 0
            bad 1 4 keep
            # neither feeding nor cutting is a text
            feed 0 0 0 0 0 -> 20
            fault 0 -> 1
            end 0 -> true
            fault 0 -> 1
            bad 2 14 keep when day/0=1;
            law keep; -> 1
            fault 0 -> 0
            """);
        e.edge(11, "1 its place (NONE).", """
            fault 1 -> NONE
            text -> 0
            fault 1 -> NONE
            bad 1 0 ;
            bad 1 4 keep
            law keep; -> 1
            fault 1 -> NONE
            """);
        e.edge(11, "NONE for another what.", """
            fault -1,2,3,10,MIN,MAX -> NONE
            bad 1 4 keep
            fault -1,2,3,10,MIN,MAX -> NONE
            """);
        e.edge(11, "FAULTS, the first by its place,", """
            # 1 before 2, 2 before 1, 1 before 3, 3 before 1 and 2
            bad 1 5 keep x when day/0=1;
            bad 2 14 keep when day/0=x;
            bad 2 14 keep when day/0=day/0;
            bad 1 16 keep when kind=1x or day/0=1;
            """, "bad 1 10 keep when x" + "(".repeat(9) + "1=1;", "bad 3 18 keep when " + "(".repeat(9) + "x;",
            "bad 3 18 keep when " + "(".repeat(9) + "day/0=1;", "bad 2 15 keep when day/ 0 =1" + "(".repeat(9),
            "bad 3 80 " + "keep;".repeat(16) + "keep x", "bad 1 79 " + "keep;".repeat(15) + "keep+keep;",
            "bad 1 75 " + "keep;".repeat(15) + "keeps;keep;");
        e.edge(11, "at one place the least:",
            // where no ( and no line can stand, the ninth ( and the seventeenth line are what can't stand there
            "bad 1 21 keep when " + "(".repeat(8) + "day(", "bad 1 22 keep when " + "(".repeat(8) + "day not",
            "bad 1 80 " + "keep;".repeat(16) + "x", "bad 1 80 " + "keep;".repeat(16) + ";",
            "bad 1 80 " + "keep;".repeat(16) + "when", "bad 1 80 " + "keep;".repeat(16) + "(");
    }

    private static void faultsOfStanding(Edges e) {
        e.edge(11, "1 what can't stand there (the end: the text's length).", """
            bad 1 4 keep
            bad 1 7 keep\\x20\\n\\x20
            bad 1 9 keep when
            bad 1 14 keep when kind
            bad 1 15 keep when kind=
            bad 1 16 keep when kind=1
            bad 1 19 keep when kind=1 or
            bad 1 20 keep when kind=1 and
            bad 1 13 keep when not
            bad 1 17 keep when (kind=1
            bad 1 18 keep when (kind=1)
            bad 1 12 keep when 1+
            bad 1 12 keep when 1*
            bad 1 12 keep when 1/
            bad 1 11 keep when 1
            bad 1 10 keep;keep\\x20
            """);
        e.edge(11, "1 what can't stand there (the end: the text's length).",
            "bad 1 399 keep when 1=1" + "+1".repeat(193) + "x", "bad 1 399 keep when 1=1" + "+1".repeat(193),
            "bad 1 400 keep when 1=1" + "+1".repeat(193) + "+", "bad 1 0 " + ";".repeat(400),
            "bad 1 400 keep when " + "\\x20".repeat(386) + "1234");
        // "leaves" cut to "leave", and 12345 cut to 1234: what stood behind the end is no part of the text
        e.edge(11, "1 what can't stand there (the end: the text's length).", """
            feed 0x6c656176 0x65732020 0x20202020 0x20202020 0x20202020 -> 20
            end 6 -> true
            text -> NONE
            fault 1 -> 0
            feed 0x6c656176 0x65732020 0x20202020 0x20202020 0x20202020 -> 20
            end 5 -> true
            text -> NONE
            fault 1 -> 5
            # "keep when 1=12345"
            feed 0x6b656570 0x20776865 0x6e20313d 0x31323334 0x35202020 -> 20
            end 17 -> true
            text -> NONE
            fault 1 -> 12
            feed 0x6b656570 0x20776865 0x6e20313d 0x31323334 0x35202020 -> 20
            end 16 -> true
            text -> NONE
            fault 1 -> 16
            """);
        e.edge(11, "2 (at the NUMBER) a part by 0.", """
            bad 2 14 keep when day/0=1;
            bad 2 16 keep when day / 0000 = 1;
            bad 2 16 keep when day=1/00;
            bad 2 14 keep when 1*2/0=1;
            bad 2 14 keep when 4/2/0=1;
            bad 2 21 keep when 1=1 or day/0=1;
            bad 2 22 keep when 1=1 and day/0=1;
            bad 2 18 keep when not day/0=1;
            bad 2 15 keep when (day/0=1);
            # no part by 0, or none by a number
            law keep when 0/1=0*0; -> 1
            law keep when 1/0001=0; -> 1
            law keep when 1/10=0; -> 1
            bad 1 14 keep when day/00000=1;
            bad 1 14 keep when day/like=1;
            """);
    }

    private static void faultsOfMuch(Edges e) {
        e.edge(11, "3 (at its KEYWORD) the 17th line;", "law " + "keep;".repeat(16) + " -> 16",
            "law " + "keep when 1=2;".repeat(15) + "leave when day=0; \\n -> 16", "bad 3 80 " + "keep;".repeat(17),
            "bad 3 80 " + "keep;".repeat(18), "bad 3 83 " + "keep;".repeat(16) + " \\n leave", "bad 3 80 "
            + "keep;".repeat(16) + "keep when day/0=1;");
        e.edge(11, "(at it) the 9th ( or not that is open.", "law keep when " + "(".repeat(8) + "1=1" + ")".repeat(8)
            + "; -> 1", "law keep when " + "not ".repeat(8) + "1=1; -> 1",
            "law keep when " + "not(".repeat(4) + "1=1" + ")".repeat(4) + "; -> 1",
            // closed ones are no longer open: behind a ), and behind the claim of a not
            "law keep when " + "not ".repeat(7) + "(1=1) and not 1=2 or " + "(".repeat(8) + "1=1" + ")".repeat(8)
            + " or not not(1=3); -> 1", "law keep when " + "(not 1=1) or ".repeat(12) + "not 1=1; -> 1",
            "law keep when " + "(".repeat(7) + "not 1=1 and not 2=2 or (1=1)" + ")".repeat(7) + "; -> 1",
            "bad 3 18 keep when " + "(".repeat(9) + "1=1", "bad 3 42 keep when " + "not ".repeat(9) + "1=1;",
            "bad 3 26 keep when " + "not(".repeat(4) + "(1=1", "bad 3 26 keep when " + "not(".repeat(4) + "not 1=1",
            "bad 3 33 keep when " + "(".repeat(7) + "not 1=1 and not not 1=1",
            "bad 3 27 keep when " + "(".repeat(7) + "(1=1) or ((", "bad 3 55 keep when 1=1 and (2=2 and " + "not ".repeat(8)
            + "day=1);");
    }
}
