/** For each promise of the document what it asks: ordinary inputs, the edges that it names, and wrong inputs. */
public final class PromiseTest {
    private static final int NONE = TollOfNames.NONE;
    private static int asked = 0;
    private static int wrong = 0;

    private PromiseTest() { }

    public static void main(String[] args) {
        newObject();
        state();
        name();
        person();
        bridge();
        christen();
        set();
        feed();
        end();
        text();
        lawOfFacts();
        lawOfSums();
        fault();
        cross();
        take();
        day();
        of();
        kept();
        book();
        called();
        alone();
        cousins();
        estate();
        behind();
        best();
        round();
        plan();
        night();
        order();
        undo();
        undoForgotten();
        image();
        look();
        System.out.println(asked + " answers asked, " + wrong + " wrong");
        if (wrong != 0) {
            System.exit(1);
        }
    }

    private static void due(int promise, String what, int got, int want) {
        asked++;
        if (got != want) {
            wrong++;
            System.out.println("promise " + promise + ": " + what + " answered " + got + ", due is " + want);
        }
    }

    private static void due(int promise, String what, boolean got, boolean want) {
        due(promise, what, got ? 1 : 0, want ? 1 : 0);
    }

    /** Feeds a text and makes it the law. */
    private static int tell(TollOfNames x, String text) {
        for (int[] five : Texts.feeds(text)) {
            x.feed(five[0], five[1], five[2], five[3], five[4]);
        }
        x.end(text.length());
        return x.text();
    }

    private static void names(TollOfNames x, int... kindsAndLetters) {
        for (int i = 0; i < kindsAndLetters.length; i += 2) {
            x.name(kindsAndLetters[i], kindsAndLetters[i + 1]);
        }
    }

    private static void bridges(TollOfNames x, int... sides) {
        for (int i = 0; i < sides.length; i += 2) {
            x.bridge(sides[i], sides[i + 1]);
        }
    }

    /** A person at a place who has these names. */
    private static int born(TollOfNames x, int place, int... names) {
        int number = x.person(place, 100);
        for (int name : names) {
            x.christen(number, name);
        }
        return number;
    }

    /** Six names of kinds 0 1 2 0 1 2 and of 1 to 6 letters. */
    private static TollOfNames sixNames() {
        TollOfNames x = new TollOfNames();
        names(x, 0, 1, 1, 2, 2, 3, 0, 4, 1, 5, 2, 6);
        return x;
    }

    private static void newObject() {
        TollOfNames x = new TollOfNames();
        due(1, "NONE", TollOfNames.NONE, -1);
        for (int what = 0; what <= 10; what++) {
            due(1, "look(" + what + ")", x.look(what), 0);
        }
        due(1, "of(0, 0)", x.of(0, 0), NONE);
        due(1, "kept(0, 0)", x.kept(0, 0), NONE);
        due(1, "book(0, 0)", x.book(0, 0), NONE);
        due(1, "image(false)", x.image(false), false);
        due(1, "undo()", x.undo(), false);
        due(1, "plan(0, 0)", x.plan(0, 0), NONE);
        due(1, "order(0, 0, 0)", x.order(0, 0, 0), NONE);
        due(1, "order(1, 0, 0)", x.order(1, 0, 0), NONE);
        due(1, "end(0)", x.end(0), true);
        due(1, "end(1)", x.end(1), false);
    }

    private static void state() {
        TollOfNames x = new TollOfNames();
        due(2, "state(5)", x.state(5), 0);
        due(2, "state(MIN)", x.state(Integer.MIN_VALUE), 5);
        due(2, "look(5)", x.look(5), Integer.MIN_VALUE);
        due(2, "state(-1)", x.state(-1), Integer.MIN_VALUE);
    }

    private static void name() {
        TollOfNames x = new TollOfNames();
        due(3, "name(-1, 1)", x.name(-1, 1), NONE);
        due(3, "name(4, 1)", x.name(4, 1), NONE);
        due(3, "name(0, 0)", x.name(0, 0), NONE);
        due(3, "name(0, 13)", x.name(0, 13), NONE);
        due(3, "look(0)", x.look(0), 0);
        for (int i = 0; i < 20; i++) {
            due(3, "name " + i, x.name(i % 4, 1 + i % 12), i);
        }
        due(3, "a twenty-first", x.name(0, 1), NONE);
        due(3, "look(0)", x.look(0), 20);
        due(3, "kind of 19", x.look(39), 3);
        due(3, "letters of 11", x.look(51), 12);
    }

    private static void person() {
        TollOfNames x = new TollOfNames();
        due(4, "person(-1, 0)", x.person(-1, 0), NONE);
        due(4, "person(8, 0)", x.person(8, 0), NONE);
        due(4, "person(0, -1)", x.person(0, -1), NONE);
        due(4, "person(0, 10000)", x.person(0, 10000), NONE);
        for (int i = 0; i < 8; i++) {
            due(4, "person " + i, x.person(7 - i, i == 7 ? 9999 : i), i);
        }
        due(4, "a ninth", x.person(0, 0), NONE);
        due(4, "place of 0", x.of(0, 0), 7);
        due(4, "coin of 7", x.of(7, 1), 9999);
        due(4, "names of 7", x.of(7, 2), 0);
    }

    private static void bridge() {
        TollOfNames x = new TollOfNames();
        due(5, "bridge(3, 3)", x.bridge(3, 3), NONE);
        due(5, "bridge(-1, 3)", x.bridge(-1, 3), NONE);
        due(5, "bridge(3, 8)", x.bridge(3, 8), NONE);
        due(5, "bridge(8, 3)", x.bridge(8, 3), NONE);
        due(5, "bridge(3, -1)", x.bridge(3, -1), NONE);
        for (int i = 0; i < 12; i++) {
            due(5, "bridge " + i, x.bridge(7, i % 2), i);
        }
        due(5, "a thirteenth", x.bridge(0, 1), NONE);
        due(5, "first side of 11", x.look(82), 7);
        due(5, "second side of 11", x.look(83), 1);
    }

    private static void christen() {
        TollOfNames x = new TollOfNames();
        names(x, 0, 1, 0, 2, 0, 3, 0, 4, 0, 5, 0, 6, 0, 7, 0, 8, 0, 9, 0, 10);
        bridges(x, 0, 1);
        x.person(0, 0);
        due(6, "no such person", x.christen(1, 0), false);
        due(6, "person -1", x.christen(-1, 0), false);
        due(6, "no such name", x.christen(0, 10), false);
        due(6, "name -1", x.christen(0, -1), false);
        for (int i = 0; i < 9; i++) {
            due(6, "christen " + i, x.christen(0, 8 - i), true);
        }
        due(6, "he has it", x.christen(0, 3), false);
        due(6, "he has nine", x.christen(0, 9), false);
        due(6, "first of the row", x.of(0, 10), 8);
        due(6, "last of the row", x.of(0, 18), 0);
        due(6, "leaves 8", x.cross(0, 0), 8);
        due(6, "christened 8 anew", x.christen(0, 8), true);
        due(6, "it comes behind", x.of(0, 18), 8);
        due(6, "christened", x.of(0, 4), 511);
    }

    private static void set() {
        TollOfNames x = new TollOfNames();
        x.person(0, 5);
        due(7, "gossip -1", x.set(0, 0, -1), false);
        due(7, "gossip 1001", x.set(0, 0, 1001), false);
        due(7, "gossip 1000, person not asked", x.set(0, 99, 1000), true);
        due(7, "ferry -1", x.set(1, 0, -1), false);
        due(7, "ferry 100", x.set(1, 0, 100), false);
        due(7, "ferry 99, person not asked", x.set(1, -5, 99), true);
        due(7, "coin 10000", x.set(2, 0, 10000), false);
        due(7, "coin -1", x.set(2, 0, -1), false);
        due(7, "coin of nobody", x.set(2, 1, 1), false);
        due(7, "coin 9999", x.set(2, 0, 9999), true);
        due(7, "place 8", x.set(3, 0, 8), false);
        due(7, "place -1", x.set(3, 0, -1), false);
        due(7, "place of nobody", x.set(3, -1, 0), false);
        due(7, "place 7", x.set(3, 0, 7), true);
        due(7, "what -1", x.set(-1, 0, 0), false);
        due(7, "what 4", x.set(4, 0, 0), false);
        due(7, "gossip", x.look(6), 1000);
        due(7, "ferry", x.look(7), 99);
        due(7, "coin", x.of(0, 1), 9999);
        due(7, "place", x.of(0, 0), 7);
    }

    private static void feed() {
        TollOfNames x = new TollOfNames();
        for (int i = 1; i <= 20; i++) {
            due(8, "feed " + i, x.feed(0x20202020, 0x20202020, 0x20202020, 0x20202020, 0x20202020), 20 * i);
        }
        due(8, "a twenty-first", x.feed(0, 0, 0, 0, 0), NONE);
        due(8, "nothing came", x.text(), 0);
        // leave;keep; with the highest byte first, the rest blanks and a line feed
        due(8, "a text", x.feed(0x6c656176, 0x653b6b65, 0x65703b20, 0x0a202020, 0x20202020), 20);
        due(8, "its lines", x.text(), 2);
        x.feed(0, 0, 0, 0, 0xff);
        for (int i = 0; i < 19; i++) {
            x.feed(0, 0, 0, 0, 0);
        }
        x.end(381);
        due(8, "381 and twenty", x.feed(0, 0, 0, 0, 0), NONE);
        x.end(380);
        due(8, "380 and twenty", x.feed(0, 0, 0, 0, 0), 400);
    }

    private static void end() {
        TollOfNames x = new TollOfNames();
        x.feed(0x6b656570, 0x3b6b6565, 0x703b6b65, 0x65703b20, 0x20202020);
        due(9, "end(-1)", x.end(-1), false);
        due(9, "end(21)", x.end(21), false);
        due(9, "end(20)", x.end(20), true);
        due(9, "end(10)", x.end(10), true);
        due(9, "end(11)", x.end(11), false);
        due(9, "lines", x.text(), 2);
        due(9, "the tape is empty", x.end(1), false);
    }

    private static void text() {
        TollOfNames x = new TollOfNames();
        due(10, "an empty law", x.text(), 0);
        due(10, "a line", tell(x, "keep;"), 1);
        due(10, "a fault", tell(x, "leave"), NONE);
        due(10, "the law stays", x.look(8), 1);
        due(10, "the tape is empty", x.end(1), false);
        due(10, "blanks alone", tell(x, " \n  \n"), 0);
        due(10, "sixteen lines", tell(x, "keep;".repeat(16)), 16);
        due(10, "no blanks", tell(x, "leave when(kind=1)or(not 2<kind);keep;"), 2);
        due(10, "eight open", tell(x, "keep when ((((((((day=1))))))));"), 1);
        due(10, "closed ones don't count",
                tell(x, "keep when " + "not ".repeat(7) + "(day=1) and not day=2 or " + "(".repeat(8) + "day=1"
                        + ")".repeat(8) + " or not not(day=3);"), 1);
        due(10, "many sums", tell(x, "keep when 1+2-3*4/5*kind/9999+letters-names<order*like+bridge-day*kept/0001;"), 1);
        due(10, "400 signs", tell(x, "keep;" + " ".repeat(390) + "keep;"), 2);
        due(10, "400 signs, many tokens", tell(x, "keep when 1 =1" + "*1".repeat(192) + " ;"), 1);
    }

    /** Which name of his row one leaves at bridge 1 by a law; he has names 0 to 5 in the order 5 .. 0. */
    private static int leaves(String law) {
        TollOfNames x = sixNames();
        bridges(x, 2, 3, 0, 1);
        int he = born(x, 0, 5, 4, 3, 2, 1, 0);
        born(x, 2, 0, 2, 3);
        born(x, 3, 2);
        int dealer = born(x, 0, 4);
        x.cross(dealer, 1);
        x.day();
        x.day();
        x.day();
        due(10, "the lines of " + law, tell(x, law) > 0, true);
        return x.cross(he, 1);
    }

    private static void lawOfFacts() {
        due(10, "kind", leaves("leave when kind=1; keep;"), 4);
        due(10, "letters", leaves("leave when letters=4; keep;"), 3);
        due(10, "names so", leaves("keep when order=0; leave when names=6; keep;"), 4);
        due(10, "names not so", leaves("leave when names=5; keep;"), -2);
        due(10, "order", leaves("leave when order=3; keep;"), 2);
        due(10, "like 2", leaves("leave when like=2; keep;"), 2);
        due(10, "like 1", leaves("leave when like=1; keep;"), 3);
        due(10, "bridge", leaves("leave when bridge=1 and kind=0; keep;"), 3);
        due(10, "not that bridge", leaves("leave when bridge=0; keep;"), -2);
        due(10, "day", leaves("leave when day=3; keep;"), 5);
        due(10, "kept", leaves("leave when kept=1; keep;"), 4);
        due(10, "no line is so", leaves("keep when kind=2; keep when kind=1;"), 3);
        due(10, "the first line counts", leaves("leave when letters<3; keep when letters<5; leave;"), 5);
        due(10, "the first line counts, keep", leaves("keep; leave;"), -2);
        due(10, "the first line counts, leave", leaves("leave; keep;"), 5);
    }

    private static void lawOfSums() {
        due(10, "from the left", leaves("leave when 10-3-2=letters; keep;"), 4);
        due(10, "times before plus", leaves("leave when 1+1*2=letters; keep;"), 2);
        due(10, "parts before minus", leaves("leave when 7-8/2=letters; keep;"), 2);
        due(10, "parts from the left", leaves("leave when 7/2*2=letters; keep;"), 5);
        due(10, "a difference below 0", leaves("leave when letters-5<0-3; keep;"), 0);
        // 9999 * 9999 * 30 wraps to -1295567266; a quarter of it is -323891816 and a half
        due(10, "parts towards 0", leaves("leave when 9999*9999*30/4=0-9999*9999*3-9999*2395-4208 and letters=2; keep;"), 1);
        due(10, "wrapping", leaves("leave when 9999*9999*9999*letters<0; keep;"), wrapped());
        due(10, "and before or", leaves("leave when letters=5 or letters=1 and letters=2; keep;"), 4);
        due(10, "and before or, behind", leaves("leave when letters=1 and letters=2 or letters=3; keep;"), 2);
        due(10, "brackets", leaves("leave when (letters=5 or letters=1) and kind=0; keep;"), 0);
        due(10, "not of one only", leaves("leave when not letters=6 and letters>4; keep;"), 4);
        due(10, "not of brackets", leaves("leave when not (letters=6 or letters=5); keep;"), 3);
        due(10, "not not", leaves("leave when not not letters=2; keep;"), 1);
        // eight open brackets, in each an or and an and that wait, and a sum and a product at the bottom
        String deep = "letters=9 or letters<9 and (".repeat(8) + "1=2 or 1=1 and 2<1+letters*1" + ")".repeat(8);
        due(10, "as deep as can be", leaves("keep when " + deep + ";"), 0);
        due(10, "as deep as can be, to leave", leaves("keep when letters>4; leave when " + deep + "; keep;"), 3);
        due(10, "above", leaves("leave when 3>letters; keep;"), 1);
        due(10, "below", leaves("leave when letters<5; keep;"), 3);
    }

    /** The first name of the row 5 .. 0 (letters 6 .. 1) by which 9999 * 9999 * 9999 * letters is below 0. */
    private static int wrapped() {
        for (int letters = 6; letters >= 1; letters--) {
            if (9999 * 9999 * 9999 * letters < 0) {
                return letters - 1;
            }
        }
        return -2;
    }

    private static void faultOf(String text, int what, int place) {
        TollOfNames x = new TollOfNames();
        due(11, "text " + text, tell(x, text), NONE);
        due(11, "fault of " + text, x.fault(0), what);
        due(11, "place in " + text, x.fault(1), place);
    }

    private static void fault() {
        TollOfNames x = new TollOfNames();
        due(11, "before all", x.fault(0), 0);
        due(11, "place before all", x.fault(1), NONE);
        due(11, "fault(2)", x.fault(2), NONE);
        due(11, "fault(-1)", x.fault(-1), NONE);
        tell(x, "x");
        due(11, "a fault", x.fault(0), 1);
        tell(x, "keep;");
        due(11, "none any more", x.fault(0), 0);
        due(11, "no place any more", x.fault(1), NONE);
        standingFaults();
        faultOf("keep when day/0=1;", 2, 14);
        faultOf("keep when day / 0000 = 1;", 2, 16);
        faultOf("keep when day=1/0;;", 2, 16);
        faultOf("keep;".repeat(17), 3, 80);
        faultOf("keep;".repeat(16) + "x", 1, 80);
        faultOf("keep;".repeat(16) + " leave when x", 3, 81);
        faultOf("keep when " + "(".repeat(9) + "day=1", 3, 18);
        faultOf("keep when " + "not ".repeat(9) + "x", 3, 42);
        faultOf("keep when " + "not(".repeat(4) + "not not x", 3, 26);
        faultOf("keep when " + "(".repeat(8) + "day=1)", 1, 24);
        faultOf("keep when " + "(".repeat(8) + "day(", 1, 21);
        faultOf("keep when 1=1 and day/0=1;", 2, 22);
        faultOf("keep when 1=1 or day/0=1;", 2, 21);
        faultOf("keep when 1=1 and (2=2 and " + "not ".repeat(8) + "day=1);", 3, 55);
        faultOf("keep when 1=1 and not (2=2 or " + "not ".repeat(7) + "day=1);", 3, 54);
        longFaults();
        // what stood behind the end before is no part of the text
        x.feed(0x6c656176, 0x65736573, 0x20202020, 0x20202020, 0x20202020);
        x.end(5);
        due(11, "a cut word", x.text(), NONE);
        due(11, "its end", x.fault(1), 5);
        tell(x, "keep when day=12345;");
        for (int[] five : Texts.feeds("keep when day=12345;")) {
            x.feed(five[0], five[1], five[2], five[3], five[4]);
        }
        x.end(18);
        due(11, "a cut number", x.text(), NONE);
        due(11, "its end", x.fault(1), 18);
    }

    private static void longFaults() {
        faultOf(";".repeat(400), 1, 0);
        faultOf("keep when 1=1" + "+1".repeat(193) + "x", 1, 399);
        faultOf("keep when 1=1" + "+1".repeat(193), 1, 399);
        faultOf("keep when 1=1" + "+1".repeat(193) + "+", 1, 400);
        faultOf("k".repeat(400), 1, 0);
        faultOf(" ".repeat(395) + "leave", 1, 400);
        faultOf("keep when " + " ".repeat(386) + "1234", 1, 400);
    }

    private static void standingFaults() {
        faultOf("leave", 1, 5);
        faultOf("leave  ", 1, 7);
        faultOf(";", 1, 0);
        faultOf("leaves;", 1, 0);
        faultOf("Leave;", 1, 0);
        faultOf("leave;;", 1, 6);
        faultOf("leave kind=1;", 1, 6);
        faultOf("leave when;", 1, 10);
        faultOf("leave when", 1, 10);
        faultOf("leave when kind;", 1, 15);
        faultOf("leave when kind=;", 1, 16);
        faultOf("leave when kind==1;", 1, 16);
        faultOf("leave when kind=1=1;", 1, 17);
        faultOf("leave when (kind)=1;", 1, 16);
        faultOf("leave when (kind=1;", 1, 18);
        faultOf("leave when kind=1);", 1, 17);
        faultOf("leave when kind=12345;", 1, 16);
        faultOf("leave when kind=00000;", 1, 16);
        faultOf("leave when kind=1 or;", 1, 20);
        faultOf("leave when kind=1 not day=1;", 1, 18);
        faultOf("leave when -1=kind;", 1, 11);
        faultOf("leave when day/kind=1;", 1, 15);
        faultOf("leave when day*/2=1;", 1, 15);
        faultOf("leave when 3 4=1;", 1, 13);
        faultOf("leave when 3kind=1;", 1, 12);
        faultOf("leave when kind3=1;", 1, 15);
        faultOf("leave\twhen 1=1;", 1, 5);
        faultOf("leave#;", 1, 5);
        faultOf("leave;" + (char) 200, 1, 6);
        faultOf("leave;\0", 1, 6);
        faultOf("leave when leave=1;", 1, 11);
        faultOf("leave when not;", 1, 14);
    }

    private static void cross() {
        TollOfNames x = sixNames();
        bridges(x, 0, 1, 2, 3);
        int he = born(x, 0, 2, 1, 0);
        due(12, "no such person", x.cross(1, 0), NONE);
        due(12, "person -1", x.cross(-1, 0), NONE);
        due(12, "no such bridge", x.cross(he, 2), NONE);
        due(12, "bridge -1", x.cross(he, -1), NONE);
        due(12, "not there", x.cross(he, 1), NONE);
        tell(x, "keep when order=0;");
        due(12, "the second name", x.cross(he, 0), 1);
        due(12, "over there", x.of(he, 0), 1);
        due(12, "row", x.of(he, 11), 0);
        due(12, "kept", x.kept(0, 1), 1);
        x.set(1, 0, 3);
        due(12, "four letters, ferry 3", x.cross(he, 0), 0);
        due(12, "and back", x.of(he, 0), 0);
        due(12, "three letters, ferry 3", x.cross(he, 0), 100);
        due(12, "over there for nothing", x.of(he, 0), 1);
        x.set(1, 0, 2);
        due(12, "three letters, ferry 2", x.cross(he, 0), -2);
        due(12, "nothing was done", x.of(he, 0), 1);
        due(12, "lines of the book", x.look(4), 2);
        tell(x, "");
        x.set(1, 0, 0);
        due(12, "the last name", x.cross(he, 0), 2);
        tell(x, "keep;");
        due(12, "none at all is free", x.cross(he, 0), 100);
        due(12, "what he left", x.of(he, 5), 7);
    }

    private static void take() {
        TollOfNames x = new TollOfNames();
        names(x, 0, 1, 0, 1, 0, 1, 0, 1, 0, 1, 0, 1, 0, 1, 0, 1, 0, 1, 0, 1);
        bridges(x, 0, 1, 1, 2);
        int one = born(x, 0, 0, 1);
        int two = born(x, 1, 1);
        int full = born(x, 1, 1, 2, 3, 4, 5, 6, 7, 8, 9);
        x.cross(one, 0);
        due(13, "no such person", x.take(3, 0, 0), false);
        due(13, "no such bridge", x.take(two, 2, 0), false);
        due(13, "no such name", x.take(two, 0, 10), false);
        due(13, "name -1", x.take(two, 0, -1), false);
        due(13, "person -1", x.take(-1, 0, 0), false);
        due(13, "bridge -1", x.take(two, -1, 0), false);
        due(13, "none there", x.take(two, 1, 0), false);
        due(13, "he has nine", x.take(full, 0, 0), false);
        x.set(3, two, 2);
        due(13, "he is not there", x.take(two, 0, 0), false);
        x.set(3, two, 0);
        due(13, "from the other side", x.take(two, 0, 0), true);
        due(13, "behind his row", x.of(two, 11), 0);
        due(13, "the keeper has one less", x.kept(0, 0), 0);
        due(13, "not christened by it", x.of(two, 4), 2);
        due(13, "the other one left it all the same", x.of(one, 5), 1);
        due(13, "there is no more", x.take(one, 0, 0), false);
        x.cross(two, 0);
        due(13, "he has it", x.take(full, 0, 1), false);
        due(13, "his own one again", x.take(two, 0, 1), true);
    }

    private static int drawn(int state) {
        return state * 1664525 + 1013904223;
    }

    private static int of24(int state, int m) {
        return (int) ((state & 0xffffffffL) >> 8) % m;
    }

    private static void day() {
        TollOfNames x = sixNames();
        bridges(x, 0, 1);
        int one = born(x, 0, 0, 1, 2);
        born(x, 0, 3);
        due(14, "without gossip", x.day(), 0);
        x.cross(one, 0);
        x.cross(one, 0);
        x.state(77);
        due(14, "without gossip again", x.day(), 0);
        due(14, "no draw", x.look(5), 77);
        x.set(0, 0, 500);
        int state = 77;
        int grown = 0;
        for (int i = 0; i < 6 && grown == 0; i++) {
            state = drawn(state);
            if (of24(state, 1000) < 500) {
                state = drawn(state);
                grown = 1;
                due(14, "it grows", x.day(), 1);
                due(14, "that one", x.of(one, 11), of24(state, 2));
            } else {
                due(14, "it doesn't grow", x.day(), 0);
            }
            due(14, "state", x.look(5), state);
        }
        due(14, "the first day of growth was reached", grown, 1);
        x.set(0, 0, 1000);
        due(14, "the last one grows", x.day(), 1);
        state = drawn(drawn(state));
        due(14, "by two draws, too", x.look(5), state);
        due(14, "nothing more to grow", x.day(), 0);
        due(14, "no draw for it", x.look(5), state);
        due(14, "all names", x.of(one, 6), 7);
        fullRowDay();
    }

    private static void fullRowDay() {
        TollOfNames x = new TollOfNames();
        for (int i = 0; i < 12; i++) {
            x.name(0, 1);
        }
        bridges(x, 0, 1);
        int one = born(x, 0, 0, 1, 2, 3, 4, 5, 6, 7, 8);
        x.cross(one, 0);
        x.christen(one, 9);
        x.set(0, 0, 1000);
        due(14, "he has nine", x.day(), 0);
        due(14, "no draw", x.look(5), 0);
        for (int i = 0; i < 100; i++) {
            x.day();
        }
        due(14, "the day", x.look(3), 101);
        // nothing is promised for so many calls, but the last day is told
        for (int i = 101; i < 9999; i++) {
            x.day();
        }
        due(14, "the last day", x.look(3), 9999);
        due(14, "no day behind it", x.day(), NONE);
        due(14, "it stays the last", x.look(3), 9999);
    }

    private static void of() {
        TollOfNames x = sixNames();
        bridges(x, 3, 4);
        int he = born(x, 3, 5, 0, 4);
        x.cross(he, 0);
        x.christen(he, 1);
        int[] want = {4, 100, 3, 1 + 5 + 2, 51, 32, 19, NONE, NONE, NONE, 0, 4, 1, NONE};
        for (int what = 0; what < want.length; what++) {
            due(15, "of(0, " + what + ")", x.of(he, what), want[what]);
        }
        due(15, "what -1", x.of(he, -1), NONE);
        due(15, "what MIN", x.of(he, Integer.MIN_VALUE), NONE);
        due(15, "what MAX", x.of(he, Integer.MAX_VALUE), NONE);
        due(15, "nobody", x.of(1, 0), NONE);
        due(15, "person -1", x.of(-1, 0), NONE);
    }

    private static void kept() {
        TollOfNames x = sixNames();
        bridges(x, 0, 1, 0, 1);
        born(x, 0, 5);
        born(x, 0, 5);
        x.cross(0, 1);
        x.cross(1, 1);
        due(16, "two", x.kept(1, 5), 2);
        due(16, "none", x.kept(0, 5), 0);
        due(16, "no such bridge", x.kept(2, 5), NONE);
        due(16, "bridge -1", x.kept(-1, 5), NONE);
        due(16, "no such name", x.kept(1, 6), NONE);
        due(16, "name -1", x.kept(1, -1), NONE);
        x.take(0, 1, 5);
        due(16, "one", x.kept(1, 5), 1);
    }

    private static void book() {
        TollOfNames x = sixNames();
        bridges(x, 0, 1, 1, 0);
        born(x, 0);
        int he = born(x, 0, 3);
        for (int i = 0; i < 100; i++) {
            x.cross(he, 1);
            if (i < 99) {
                x.take(he, 1, 3);
            }
        }
        due(17, "lines", x.look(4), 100);
        x.day();
        x.take(he, 1, 3);
        due(17, "a toll beyond it", x.cross(he, 0), 3);
        due(17, "lines as before", x.look(4), 100);
        due(17, "kept all the same", x.kept(0, 3), 1);
        due(17, "person", x.book(99, 0), he);
        due(17, "bridge", x.book(99, 1), 1);
        due(17, "name", x.book(99, 2), 3);
        due(17, "day", x.book(99, 3), 0);
        due(17, "line 100", x.book(100, 0), NONE);
        due(17, "line -1", x.book(-1, 0), NONE);
        due(17, "what 4", x.book(0, 4), NONE);
        due(17, "what -1", x.book(0, -1), NONE);
        due(17, "undone beyond the book", x.undo(), true);
        due(17, "no line goes for it", x.look(4), 100);
        TollOfNames y = sixNames();
        bridges(y, 0, 1);
        born(y, 0, 2, 5);
        y.day();
        y.cross(0, 0);
        y.day();
        y.cross(0, 0);
        due(17, "first name", y.book(0, 2), 2);
        due(17, "first day", y.book(0, 3), 1);
        due(17, "second name", y.book(1, 2), 5);
        due(17, "second day", y.book(1, 3), 2);
        y.cross(0, 0);
        due(17, "nothing for what is free", y.look(4), 2);
    }

    private static void called() {
        TollOfNames x = sixNames();
        born(x, 3, 0, 1);
        born(x, 3, 1, 2);
        born(x, 4, 1);
        due(18, "two answer", x.called(3, 1), 3);
        due(18, "one answers", x.called(4, 1), 4);
        due(18, "nobody", x.called(5, 1), 0);
        due(18, "one of two", x.called(3, 2), 2);
        due(18, "no such place", x.called(8, 1), NONE);
        due(18, "place -1", x.called(-1, 1), NONE);
        due(18, "no such name", x.called(3, 6), NONE);
        due(18, "name -1", x.called(3, -1), NONE);
    }

    private static void alone() {
        TollOfNames x = sixNames();
        born(x, 3, 0, 1);
        born(x, 3, 1, 2);
        born(x, 4, 0);
        born(x, 3, 1);
        born(x, 3);
        due(19, "two of four", x.alone(3), 3);
        due(19, "who is by himself", x.alone(4), 4);
        born(x, 3, 0, 2);
        due(19, "nobody any more", x.alone(3), 0);
        due(19, "an empty place", x.alone(0), 0);
        due(19, "place 8", x.alone(8), NONE);
        due(19, "place -1", x.alone(-1), NONE);
    }

    /** Who left what: 0: {0}, 1: {0, 1}, 2: {1, 2}, 3: {3}, 4: none, 5: {2}. */
    private static TollOfNames heirs() {
        TollOfNames x = sixNames();
        bridges(x, 0, 1);
        int[][] left = {{0}, {0, 1}, {1, 2}, {3}, {}, {2}};
        for (int[] row : left) {
            int p = born(x, 0, row);
            for (int i = 0; i < row.length; i++) {
                x.cross(p, 0);
            }
        }
        return x;
    }

    private static void cousins() {
        TollOfNames x = heirs();
        due(20, "all but one by others", x.cousins(0), 2 + 4 + 32);
        due(20, "from the middle", x.cousins(2), 1 + 2 + 32);
        due(20, "from the last", x.cousins(5), 1 + 2 + 4);
        due(20, "alone with his own", x.cousins(3), 0);
        due(20, "who left none", x.cousins(4), 0);
        due(20, "nobody", x.cousins(6), NONE);
        due(20, "person -1", x.cousins(-1), NONE);
        x.take(0, 0, 1);
        due(20, "taking doesn't make cousins", x.cousins(3), 0);
        due(20, "nor unmake them", x.cousins(0), 2 + 4 + 32);
    }

    private static void estate() {
        TollOfNames x = heirs();
        due(21, "100 by three", x.estate(0), 33);
        x.set(2, 0, 2);
        due(21, "2 by three", x.estate(0), 0);
        due(21, "without cousins", x.estate(3), NONE);
        due(21, "nobody", x.estate(6), NONE);
        due(21, "person -1", x.estate(-1), NONE);
    }

    private static void behind() {
        TollOfNames x = sixNames();
        bridges(x, 0, 1, 1, 2, 2, 0);
        int he = born(x, 0, 0, 1, 2, 3, 4);
        due(22, "five bridges", x.behind(he, 0, 1, 2, 0, 1), 0);
        due(22, "four bridges", x.behind(he, 0, 1, 2, 2, NONE), 16);
        due(22, "one bridge, the rest not asked", x.behind(he, 2, NONE, 99, -7, 0), 30);
        due(22, "none", x.behind(he, NONE, 0, 0, 0, 0), NONE);
        due(22, "not from there", x.behind(he, 1, NONE, NONE, NONE, NONE), NONE);
        due(22, "not from there then", x.behind(he, 0, 2, NONE, NONE, NONE), NONE);
        due(22, "no such bridge", x.behind(he, 0, 3, NONE, NONE, NONE), NONE);
        due(22, "bridge -2", x.behind(he, -2, NONE, NONE, NONE, NONE), NONE);
        due(22, "nobody", x.behind(1, 0, NONE, NONE, NONE, NONE), NONE);
        due(22, "person -1", x.behind(-1, 0, NONE, NONE, NONE, NONE), NONE);
        tell(x, "keep when names<4;");
        due(22, "not through", x.behind(he, 0, 1, 2, NONE, NONE), -2);
        due(22, "just through", x.behind(he, 0, 1, NONE, NONE, NONE), 28);
        due(22, "not through, then not from there at the fourth", x.behind(he, 0, 1, 2, 1, NONE), NONE);
        due(22, "not through, then not from there at the fifth", x.behind(he, 0, 1, 2, 0, 2), NONE);
        due(22, "not through, and from there to the fifth", x.behind(he, 0, 1, 2, 0, 1), -2);
        due(22, "not through, and what is behind the end not asked", x.behind(he, 0, 1, 2, NONE, 1), -2);
        due(22, "not through at the bridge that is not from there", x.behind(he, 0, 1, 0, NONE, NONE), NONE);
        due(22, "not through, and no such bridge", x.behind(he, 0, 1, 2, 99, NONE), NONE);
        due(22, "not from there then, and not through", x.behind(he, 0, 2, 1, 2, NONE), NONE);
        due(22, "nothing stays", x.of(he, 6), 31);
        due(22, "nor the place", x.of(he, 0), 0);
        due(22, "nor with the keeper", x.kept(0, 0), 0);
        due(22, "nor in the book", x.look(4), 0);
        due(22, "nor what he left", x.of(he, 5), 0);
        due(22, "nor to be undone", x.look(10), 0);
        x.set(1, 0, 12);
        due(22, "free from 12 letters on", x.behind(he, 0, 0, 0, 0, 0), 4 + 8 + 16);
        tell(x, "keep;");
        x.set(1, 0, 0);
        due(22, "stuck at once", x.behind(he, 0, NONE, NONE, NONE, NONE), -2);
        due(22, "stuck at once, there and back", x.behind(he, 0, 0, 0, 0, 0), -2);
        due(22, "stuck at once, then not from there", x.behind(he, 0, 2, 0, 0, 0), NONE);
        due(22, "not from there at once", x.behind(he, 1, 0, NONE, NONE, NONE), NONE);
        due(22, "still nothing stays", x.of(he, 6), 31);
    }

    private static void best() {
        TollOfNames x = sixNames();
        // two ways of two bridges from 0 to 3 (0 1 and 2 3), a longer one (4 5 6), 7 apart
        bridges(x, 0, 1, 1, 3, 0, 2, 2, 3, 0, 4, 4, 5, 5, 3, 6, 7);
        int he = born(x, 0, 0, 1, 2, 3);
        due(23, "names", x.best(he, 3, 0), 2);
        due(23, "bridges", x.best(he, 3, 1), 2);
        due(23, "the first of two", x.best(he, 3, 10), 0);
        due(23, "its second bridge", x.best(he, 3, 11), 1);
        due(23, "no third", x.best(he, 3, 12), NONE);
        tell(x, "keep when bridge=1;");
        due(23, "the other way", x.best(he, 3, 10), 2);
        due(23, "its second bridge", x.best(he, 3, 11), 3);
        tell(x, "keep when bridge=1 or bridge=3;");
        due(23, "the long way", x.best(he, 3, 1), 3);
        due(23, "costs three", x.best(he, 3, 0), 3);
        due(23, "its last bridge", x.best(he, 3, 12), 6);
        due(23, "round about to 1", x.best(he, 1, 1), 1);
        tell(x, "keep when bridge=1 or bridge=3 or names=2;");
        due(23, "no way", x.best(he, 3, 0), NONE);
        due(23, "no way's bridge", x.best(he, 3, 10), NONE);
        due(23, "one is there", x.best(he, 0, 0), NONE);
        due(23, "no bridges to it", x.best(he, 7, 0), NONE);
        due(23, "place 8", x.best(he, 8, 0), NONE);
        due(23, "place -1", x.best(he, -1, 0), NONE);
        due(23, "nobody", x.best(1, 3, 0), NONE);
        due(23, "person -1", x.best(-1, 3, 0), NONE);
        for (int what : new int[] {-1, 2, 9, 17, 99, Integer.MIN_VALUE, Integer.MAX_VALUE}) {
            due(23, "what " + what, x.best(he, 1, what), NONE);
        }
        due(23, "nothing stays", x.of(he, 6), 15);
        fewestNamesFirst();
    }

    private static void fewestNamesFirst() {
        TollOfNames x = new TollOfNames();
        names(x, 0, 10, 0, 1, 0, 1);
        // who leaves the long name goes free from then on
        bridges(x, 0, 1, 0, 2, 2, 1, 1, 3, 1, 4, 4, 3);
        int he = born(x, 0, 0, 1, 2);
        x.set(1, 0, 2);
        tell(x, "keep when bridge=0; leave when bridge=1 and order=0; keep when order=0 and bridge<4;");
        due(23, "names", x.best(he, 3, 0), 1);
        due(23, "bridges", x.best(he, 3, 1), 3);
        tell(x, "keep when bridge=0 and order=0;");
        due(23, "a longer way for a name less", x.best(he, 3, 1), 3);
        due(23, "starts so", x.best(he, 3, 10), 1);
        due(23, "one name", x.best(he, 3, 0), 1);
        x.set(1, 0, 99);
        due(23, "all free: names", x.best(he, 3, 0), 0);
        due(23, "all free: the fewest bridges", x.best(he, 3, 1), 2);
        due(23, "all free: the last bridge", x.best(he, 3, 11), 3);
    }

    private static void round() {
        TollOfNames x = new TollOfNames();
        due(24, "no such bridge", x.round(0), NONE);
        bridges(x, 0, 1);
        for (int i = 1; i <= 12; i++) {
            due(24, "bridge " + i, x.round(0), i);
        }
        due(24, "a thirteenth", x.round(0), NONE);
        due(24, "twelve", x.look(9), 12);
        due(24, "no such one", x.round(1), NONE);
        due(24, "bridge -2", x.round(-2), NONE);
        due(24, "emptied", x.round(NONE), 0);
        due(24, "empty", x.look(9), 0);
        due(24, "emptied again", x.round(NONE), 0);
    }

    private static void plan() {
        TollOfNames x = sixNames();
        bridges(x, 0, 1, 1, 2, 2, 3);
        int he = born(x, 0, 0);
        due(25, "an empty round", x.plan(he, 0), NONE);
        x.round(0);
        x.round(1);
        due(25, "none is needed", x.plan(he, 0), 0);
        due(25, "no name then", x.plan(he, 10), NONE);
        tell(x, "leave when kind=2; keep;");
        // name 0 may not be left, so both names of kind 2 are needed
        due(25, "two", x.plan(he, 0), 2);
        due(25, "first", x.plan(he, 10), 2);
        due(25, "second", x.plan(he, 11), 5);
        due(25, "no third", x.plan(he, 12), NONE);
        x.round(2);
        due(25, "three bridges, two such names", x.plan(he, 0), NONE);
        tell(x, "leave when letters>1; keep;");
        due(25, "three", x.plan(he, 0), 3);
        due(25, "the lesser numbers first", x.plan(he, 10) * 100 + x.plan(he, 11) * 10 + x.plan(he, 12), 123);
        x.round(2);
        due(25, "four are too many", x.plan(he, 0), NONE);
        x.round(NONE);
        x.round(0);
        x.round(2);
        due(25, "not from there then", x.plan(he, 0), NONE);
        x.round(NONE);
        x.round(1);
        due(25, "not from there", x.plan(he, 0), NONE);
        due(25, "nobody", x.plan(1, 0), NONE);
        due(25, "person -1", x.plan(-1, 0), NONE);
        x.set(3, he, 1);
        due(25, "one", x.plan(he, 10), 1);
        for (int what : new int[] {-1, 1, 9, 11, 13, Integer.MIN_VALUE, Integer.MAX_VALUE}) {
            due(25, "what " + what, x.plan(he, what), NONE);
        }
        due(25, "nothing stays", x.of(he, 6), 1);
        due(25, "nor christened", x.of(he, 4), 1);
        nineInAll();
    }

    private static void nineInAll() {
        TollOfNames x = new TollOfNames();
        for (int i = 0; i < 12; i++) {
            x.name(i < 8 ? 0 : 1, 1);
        }
        bridges(x, 0, 1);
        int he = born(x, 0, 0, 1, 2, 3, 4, 5, 6, 7);
        tell(x, "leave when kind=1; keep;");
        x.round(0);
        due(25, "the ninth", x.plan(he, 0), 1);
        due(25, "it is", x.plan(he, 10), 8);
        x.round(0);
        due(25, "no tenth", x.plan(he, 0), NONE);
        tell(x, "leave when names=9 and order=8 and kind=1; leave when kind=0 and names=8; keep;");
        due(25, "one, and then one of his own", x.plan(he, 0), 1);
        tell(x, "leave when names>7; keep;");
        due(25, "nine and eight", x.plan(he, 0), 1);
    }

    private static void night() {
        TollOfNames x = sixNames();
        bridges(x, 0, 1, 5, 6);
        int one = born(x, 0, 0);
        int two = born(x, 0, 0, 1, 2);
        int three = born(x, 5, 1, 2);
        due(26, "no keeper has them", x.night(one, two), NONE);
        x.cross(three, 1);
        due(26, "one of two", x.night(one, two), NONE);
        x.cross(three, 1);
        due(26, "both, though far away", x.night(one, two), 2);
        due(26, "none to take", x.night(two, one), 0);
        due(26, "as one without names", x.night(one, three), 0);
        due(26, "as himself", x.night(one, one), NONE);
        due(26, "as nobody", x.night(one, 3), NONE);
        due(26, "as -1", x.night(one, -1), NONE);
        due(26, "nobody", x.night(3, one), NONE);
        due(26, "person -1", x.night(-1, one), NONE);
        fullNight();
    }

    private static void fullNight() {
        TollOfNames x = new TollOfNames();
        for (int i = 0; i < 12; i++) {
            x.name(0, 1);
        }
        bridges(x, 0, 1);
        int he = born(x, 0, 0, 1, 2, 3, 4, 5, 6);
        int as = born(x, 0, 8, 9, 10);
        int giver = born(x, 0, 8, 9, 10);
        x.cross(giver, 0);
        x.cross(giver, 0);
        x.cross(giver, 0);
        due(26, "seven and three", x.night(he, as), NONE);
        x.cross(as, 0);
        due(26, "seven and two", x.night(he, as), 2);
    }

    private static void order() {
        TollOfNames x = sixNames();
        bridges(x, 0, 1, 2, 3);
        born(x, 0, 0, 1);
        born(x, 0, 0, 2);
        born(x, 0, 1, 2);
        // whoever crosses leaves a name that others have, if there is one
        tell(x, "leave when like>0; keep;");
        due(27, "all three", x.order(7, 0, 0), 3);
        due(27, "first", x.order(7, 0, 10), 0);
        due(27, "no fourth", x.order(7, 0, 13), NONE);
        due(27, "one alone", x.order(1, 0, 0), 1);
        due(27, "others not asked", x.order(3, 0, 0), 2);
        for (int what : new int[] {-1, 1, 9, Integer.MIN_VALUE, Integer.MAX_VALUE}) {
            due(27, "what " + what, x.order(7, 0, what), NONE);
        }
        due(27, "no such bridge", x.order(7, 2, 0), NONE);
        due(27, "bridge -1", x.order(7, -1, 0), NONE);
        due(27, "not at the bridge", x.order(7, 1, 0), NONE);
        due(27, "none", x.order(0, 0, 0), NONE);
        due(27, "nobody 3", x.order(15, 0, 0), NONE);
        due(27, "below 0", x.order(-1, 0, 0), NONE);
        due(27, "MIN", x.order(Integer.MIN_VALUE, 0, 0), NONE);
        x.set(3, 2, 1);
        due(27, "on both sides", x.order(7, 0, 0), NONE);
        tell(x, "keep;");
        due(27, "not all get through", x.order(3, 0, 0), NONE);
        due(27, "not all get through, who", x.order(3, 0, 10), NONE);
        due(27, "nothing stays", x.of(0, 6) * 100 + x.of(0, 0), 300);
        orderThatCounts();
        manyInOrder();
    }

    private static void orderThatCounts() {
        TollOfNames x = sixNames();
        bridges(x, 0, 1);
        born(x, 0, 0, 1);
        born(x, 0, 0, 1);
        // the keeper takes name 0 once only, then the next name; the first who comes leaves 0
        tell(x, "keep when kept>0;");
        due(27, "both alone", x.order(3, 0, 0), 2);
        due(27, "the lesser first", x.order(3, 0, 10) * 10 + x.order(3, 0, 11), 1);
        // 0 first: {2} and {1, 2}, one alone; 1 first: {0, 2} and {1}, both
        TollOfNames z = sixNames();
        bridges(z, 0, 1);
        born(z, 0, 1, 2);
        born(z, 0, 1, 0, 2);
        tell(z, "keep when kept>0;");
        due(27, "both, the greater first", z.order(3, 0, 0), 2);
        due(27, "the greater first", z.order(3, 0, 10) * 10 + z.order(3, 0, 11), 10);
        TollOfNames y = sixNames();
        bridges(y, 0, 1);
        born(y, 0, 0, 1, 2);
        born(y, 0, 0, 1);
        born(y, 0, 2, 0);
        tell(y, "leave when kept=0 and like<2; leave when like=2 and kept=0 and order=1; keep;");
        due(27, "how many", y.order(7, 0, 0), 2);
        // by 0 1 2 and 0 2 1 person 1 is stuck
        due(27, "in this order", y.order(7, 0, 10) * 100 + y.order(7, 0, 11) * 10 + y.order(7, 0, 12), 102);
    }

    private static void manyInOrder() {
        TollOfNames x = sixNames();
        bridges(x, 0, 1);
        for (int i = 0; i < 8; i++) {
            born(x, 1, i % 6);
        }
        due(27, "six leave all they have", x.order(63, 0, 0), 0);
        due(27, "the last of six", x.order(63, 0, 15), 5);
        due(27, "a seventh's place", x.order(63, 0, 16), NONE);
        due(27, "seven", x.order(127, 0, 0), NONE);
        due(27, "256", x.order(256, 0, 0), NONE);
        x.set(1, 0, 99);
        due(27, "six by ferry", x.order(252, 0, 0), 6);
        due(27, "others are not asked", x.order(63, 0, 0), 6);
    }

    private static void undo() {
        TollOfNames x = sixNames();
        bridges(x, 0, 1);
        int he = born(x, 0, 0, 1, 2, 3);
        tell(x, "keep when order=0 or order=2;");
        x.cross(he, 0);
        x.cross(he, 0);
        due(28, "two", x.look(10), 2);
        due(28, "undone", x.undo(), true);
        due(28, "row", x.of(he, 10) * 100 + x.of(he, 11) * 10 + x.of(he, 12), 23);
        due(28, "names", x.of(he, 2), 3);
        due(28, "place", x.of(he, 0), 1);
        due(28, "left", x.of(he, 5), 2);
        due(28, "kept", x.kept(0, 1) * 10 + x.kept(0, 2), 10);
        due(28, "book", x.look(4), 1);
        due(28, "undone again", x.undo(), true);
        due(28, "row again", x.of(he, 11) * 10 + x.of(he, 12), 12);
        due(28, "nothing left", x.of(he, 5), 0);
        due(28, "place again", x.of(he, 0), 0);
        due(28, "no more", x.undo(), false);
        tell(x, "");
        for (int i = 0; i < 10; i++) {
            x.cross(he, 0);
        }
        due(28, "eight are kept", x.look(10), 8);
        for (int i = 0; i < 8; i++) {
            due(28, "undone " + i, x.undo(), true);
        }
        due(28, "the ninth is gone", x.undo(), false);
        due(28, "two stay done", x.of(he, 6), 12);
        leftTwice();
    }

    private static void leftTwice() {
        TollOfNames x = sixNames();
        bridges(x, 0, 1);
        int he = born(x, 0, 0);
        x.cross(he, 0);
        x.take(he, 0, 0);
        x.cross(he, 0);
        x.undo();
        due(28, "he had left it before", x.of(he, 5), 1);
        due(28, "he has it again", x.of(he, 6), 1);
        due(28, "kept", x.kept(0, 0), 0);
    }

    /** One that has just crossed, so that one crossing can be undone. */
    private static TollOfNames crossed() {
        TollOfNames x = sixNames();
        bridges(x, 0, 1);
        born(x, 0, 0, 1, 2);
        x.cross(0, 0);
        return x;
    }

    private static void undoForgotten() {
        TollOfNames x = crossed();
        x.state(9);
        x.round(0);
        x.round(NONE);
        tell(x, "keep;");
        x.feed(0, 0, 0, 0, 0);
        x.end(0);
        x.image(true);
        x.cross(0, 0);
        x.cross(0, 1);
        x.name(9, 9);
        x.person(9, 9);
        x.bridge(9, 9);
        x.christen(0, 1);
        x.set(0, 0, -1);
        x.take(0, 0, 5);
        x.behind(0, 0, 0, 0, 0, 0);
        x.best(0, 0, 0);
        x.plan(0, 0);
        x.order(1, 0, 0);
        due(28, "kept through all that", x.look(10), 1);
        due(28, "and undone", x.undo(), true);
        due(28, "the law stays", x.look(8), 1);
        due(28, "the state stays", x.look(5), 9);
        x = crossed();
        x.name(0, 1);
        due(28, "a name", x.undo(), false);
        x = crossed();
        x.person(0, 1);
        due(28, "a person", x.undo(), false);
        x = crossed();
        x.bridge(0, 1);
        due(28, "a bridge", x.undo(), false);
        x = crossed();
        x.christen(0, 3);
        due(28, "a christening", x.undo(), false);
        x = crossed();
        x.set(0, 0, 0);
        due(28, "gossip", x.undo(), false);
        x = crossed();
        x.set(2, 0, 100);
        due(28, "coin", x.undo(), false);
        x = crossed();
        x.take(0, 0, 0);
        due(28, "taking", x.undo(), false);
        x = crossed();
        x.day();
        due(28, "a day", x.undo(), false);
        x = crossed();
        due(28, "no image to go back to", x.image(false), false);
        due(28, "that forgets nothing", x.look(10), 1);
        x.image(true);
        x.image(false);
        due(28, "going back to the image", x.undo(), false);
    }

    private static void image() {
        TollOfNames x = sixNames();
        bridges(x, 0, 1);
        born(x, 0, 0, 1, 2);
        tell(x, "keep when order=0;");
        x.round(0);
        x.state(12);
        x.set(0, 0, 10);
        x.set(1, 0, 1);
        x.cross(0, 0);
        due(29, "none yet", x.image(false), false);
        due(29, "taken", x.image(true), true);
        change(x);
        for (int i = 0; i < 2; i++) {
            due(29, "gone back", x.image(false), true);
            int[] want = {6, 1, 1, 0, 1, 12, 10, 1, 1, 1, 0};
            for (int what = 0; what < want.length; what++) {
                due(29, "look(" + what + ")", x.look(what), want[what]);
            }
            due(29, "place", x.of(0, 0), 1);
            due(29, "coin", x.of(0, 1), 100);
            due(29, "row", x.of(0, 10) * 10 + x.of(0, 11), 2);
            due(29, "christened", x.of(0, 4), 7);
            due(29, "left", x.of(0, 5), 2);
            due(29, "kept", x.kept(0, 1), 1);
            due(29, "book", x.book(0, 2), 1);
            due(29, "the round", x.plan(0, 0), 0);
            due(29, "the law", x.cross(0, 0), 2);
            change(x);
        }
        due(29, "the tape stays", x.end(20), true);
        due(29, "the tape's end", x.end(21), false);
        due(29, "fault() stays", x.fault(0), 1);
        due(29, "its place stays", x.fault(1), 2);
        due(29, "taken anew", x.image(true), true);
        x.state(1);
        x.image(false);
        due(29, "the later one", x.look(5), -3);
    }

    private static void change(TollOfNames x) {
        x.name(3, 3);
        x.person(7, 7);
        x.bridge(6, 7);
        x.christen(0, 5);
        x.set(0, 0, 1000);
        x.set(1, 0, 0);
        x.set(2, 0, 1);
        x.set(3, 0, 0);
        x.take(0, 0, 1);
        x.cross(0, 0);
        x.day();
        x.round(0);
        tell(x, "leave; leave;");
        tell(x, "  x");
        x.feed(0, 0, 0, 0, 0);
        x.end(20);
        x.state(-3);
        x.cross(0, 0);
    }

    private static void look() {
        TollOfNames x = sixNames();
        x.person(0, 0);
        bridges(x, 4, 2, 7, 0);
        due(30, "names", x.look(0), 6);
        due(30, "people", x.look(1), 1);
        due(30, "bridges", x.look(2), 2);
        due(30, "kind of 5", x.look(25), 2);
        due(30, "kind of 6", x.look(26), NONE);
        due(30, "letters of 5", x.look(45), 6);
        due(30, "letters of 6", x.look(46), NONE);
        due(30, "sides", x.look(60) * 1000 + x.look(61) * 100 + x.look(62) * 10 + x.look(63), 4270);
        for (int what : new int[] {-1, 11, 12, 19, 39, 59, 64, 65, 83, 84, 1000, Integer.MIN_VALUE, Integer.MAX_VALUE}) {
            due(30, "look(" + what + ")", x.look(what), NONE);
        }
    }
}
