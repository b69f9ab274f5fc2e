import java.util.ArrayList;
import java.util.Arrays;
import java.util.List;
import java.util.Random;

/** Random runs of 512 calls, each answered by the program and by the oracle; the seeds are fixed. */
public final class RandomRunsTest {
    private static final int RUNS = Integer.getInteger("runs", 1500);
    private static final int LENGTH = 512;
    private static final int[] EDGES = {Integer.MIN_VALUE, Integer.MIN_VALUE + 9, -1000, -2, -1, 0, 1, 7, 8, 9, 10, 11, 12,
        13, 19, 20, 31, 32, 39, 40, 59, 60, 83, 84, 99, 100, 101, 255, 256, 1000, 1001, 9999, 10000,
        Integer.MAX_VALUE - 9, Integer.MAX_VALUE};

    private final Random random;
    private final TollOfNames program = new TollOfNames();
    private final Oracle oracle = new Oracle();
    private final List<String> told = new ArrayList<>();
    private final int names;
    private final int people;
    private final int bridges;
    private final int places;
    private final int wild;
    private boolean wrong;

    private RandomRunsTest(long seed) {
        random = new Random(seed);
        names = 1 + random.nextInt(random.nextInt(4) == 0 ? 20 : 11);
        people = 1 + random.nextInt(8);
        bridges = 1 + random.nextInt(12);
        places = 2 + random.nextInt(7);
        wild = random.nextInt(4) == 0 ? 8 : 100;
    }

    public static void main(String[] args) {
        int wrongRuns = 0;
        for (int run = 0; run < RUNS && wrongRuns < 5; run++) {
            RandomRunsTest test = new RandomRunsTest(run + Long.getLong("seed", 0));
            test.go();
            if (test.wrong) {
                wrongRuns++;
                System.out.println("random run " + run + ":");
                test.told.forEach(line -> System.out.println("  " + line));
            }
        }
        System.out.println(RUNS + " random runs, " + wrongRuns + " wrong");
        if (wrongRuns != 0) {
            System.exit(1);
        }
    }

    private void call(String name, int... args) {
        if (wrong || told.size() >= LENGTH) {
            return;
        }
        int number = Calls.numberOf(name);
        int got = Calls.onProgram(program, number, args);
        int due = Calls.onOracle(oracle, number, args);
        String row = name + Arrays.toString(args) + " answered " + got;
        wrong = got != due;
        told.add(wrong ? row + ", due is " + due : row);
    }

    private void go() {
        call("state", random.nextInt());
        for (int i = 0; i < names; i++) {
            call("name", random.nextInt(4), 1 + random.nextInt(12));
        }
        for (int i = 0; i < people; i++) {
            call("person", random.nextInt(random.nextBoolean() ? 2 : places), random.nextInt(10000));
        }
        for (int i = 0; i < bridges; i++) {
            int a = random.nextInt(places);
            call("bridge", a, (a + 1 + random.nextInt(places - 1)) % places);
        }
        for (int i = 0; i < people * 5; i++) {
            call("christen", random.nextInt(people), random.nextInt(names));
        }
        if (random.nextBoolean()) {
            law();
        }
        call("set", 1, 0, random.nextInt(random.nextBoolean() ? 5 : 30));
        call("set", 0, 0, random.nextInt(1001));
        for (int i = 0; i < 2 * LENGTH && told.size() < LENGTH && !wrong; i++) {
            step();
        }
    }

    private void step() {
        switch (random.nextInt(40)) {
            case 0: law(); break;
            case 1: call("day"); lookAround(); break;
            case 2: case 3: call("undo"); lookAround(); break;
            case 4: call("image", random.nextInt(2)); lookAround(); break;
            case 5: case 6: case 28: case 29: case 30: call("christen", person(), name()); break;
            case 7: case 8: call("take", person(), bridge(), name()); break;
            case 9: call("set", random.nextInt(5), person(), number(random.nextInt(4) == 0 ? 10000 : 30)); break;
            case 10: call("set", 3, person(), number(places)); break;
            case 11: call("state", random.nextInt()); break;
            case 12: case 13: call("round", bridge()); call("look", 9); break;
            case 14: case 27: plans(); break;
            case 15: ways(); break;
            case 16: orders(); break;
            case 17: call("night", person(), person()); break;
            case 18: case 19: crowd(); break;
            case 20: call("book", number(12), number(5)); break;
            case 21: call("look", number(90)); break;
            case 22: call("cousins", person()); call("estate", person()); break;
            case 23: call("called", number(places), name()); call("alone", number(places)); break;
            case 24: call("kept", bridge(), name()); break;
            case 25: walks(); break;
            case 26: anything(); break;
            default: crossOften(); break;
        }
    }

    private void crossOften() {
        int who = person();
        for (int i = 0; i < 2; i++) {
            call("cross", who, bridgeFrom(oracle.of(who, 0)));
        }
        call("cross", who, bridge());
        call("of", who, number(22));
    }

    /** A bridge at the place if one is found soon, so that crossings and walks come about. */
    private int bridgeFrom(int place) {
        int found = bridge();
        for (int i = 0; i < 20 && oracle.look(60 + 2 * found) != place && oracle.look(61 + 2 * found) != place; i++) {
            found = random.nextInt(bridges);
        }
        return found;
    }

    private int across(int over, int place) {
        int first = oracle.look(60 + 2 * over);
        return first == place ? oracle.look(61 + 2 * over) : first;
    }

    private void walks() {
        int who = person();
        for (int i = 0; i < 4; i++) {
            int[] args = {who, -1, -1, -1, -1, -1};
            int place = oracle.of(who, 0);
            int steps = 1 + random.nextInt(5);
            for (int step = 1; step <= steps; step++) {
                args[step] = random.nextInt(8) == 0 ? bridge() : bridgeFrom(place);
                place = across(args[step], place);
            }
            call("behind", args);
        }
    }

    private void ways() {
        int who = person();
        int place = number(places);
        for (int what : new int[] {0, 1, 10, 11, 12, number(20)}) {
            call("best", who, place, what);
        }
    }

    private void plans() {
        int who = person();
        if (random.nextInt(4) != 0) {
            call("round", -1);
            int steps = 1 + random.nextInt(13);
            int place = oracle.of(who, 0);
            for (int i = 0; i < steps; i++) {
                int over = bridgeFrom(place);
                if (over != -1) {
                    call("round", over);
                    place = across(over, place);
                }
            }
        }
        if (random.nextInt(3) == 0) {
            call("set", 1, 0, random.nextInt(8));
        }
        if (random.nextInt(3) == 0) {
            tell(Texts.tightLaw(random));
        }
        for (int what : new int[] {0, 10, 11, 12, 13, number(15)}) {
            call("plan", who, what);
        }
    }

    private void orders() {
        int set = random.nextInt(1 << people);
        int over = bridge();
        for (int what : new int[] {0, 10, 11, 12, number(17)}) {
            call("order", set, over, what);
        }
    }

    /** Brings some to one place, so that their order can be asked for. */
    private void crowd() {
        int over = random.nextInt(bridges);
        int set = random.nextInt(1 << people);
        int place = oracle.look(60 + 2 * over + random.nextInt(2));
        for (int p = 0; p < people; p++) {
            if ((set >> p & 1) != 0) {
                call("set", 3, p, place);
            }
        }
        if (random.nextBoolean()) {
            tell(Texts.lawOfTurns(random));
            for (int i = 0; i < 8; i++) {
                call("christen", person(), name());
            }
        }
        for (int what : new int[] {0, 10, 11, 12, 13, 14, 15, 16}) {
            call("order", set, over, what);
        }
        call("alone", place);
    }

    private void lookAround() {
        for (int what : new int[] {3, 4, 5, 8, 9, 10}) {
            call("look", what);
        }
        int who = person();
        for (int what : new int[] {0, 2, 3, 4, 5, 6, 10, 11}) {
            call("of", who, what);
        }
        call("kept", bridge(), name());
        call("book", oracle.look(4) - 1, random.nextInt(4));
    }

    private void anything() {
        int number = random.nextInt(Calls.NAMES.length);
        int[] args = new int[Calls.COUNTS[number]];
        for (int i = 0; i < args.length; i++) {
            args[i] = EDGES[random.nextInt(EDGES.length)];
        }
        call(Calls.NAMES[number], args);
    }

    private int number(int below) {
        return random.nextInt(wild) == 0 ? EDGES[random.nextInt(EDGES.length)] : random.nextInt(below);
    }

    private int person() {
        return number(people);
    }

    private int name() {
        return number(names);
    }

    private int bridge() {
        return random.nextInt(12) == 0 ? -1 : number(bridges);
    }

    private void law() {
        tell(random.nextInt(3) == 0 ? Texts.tightLaw(random) : Texts.law(random));
    }

    private void tell(String text) {
        for (int[] twenty : Texts.feeds(text)) {
            call("feed", twenty);
        }
        call("end", text.length());
        call("text");
        call("fault", 0);
        call("fault", 1);
        call("look", 8);
    }
}
