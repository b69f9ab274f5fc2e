import java.util.ArrayList;
import java.util.List;

/**
 * All that can be seen of an object from outside behind a run of calls. The run is made anew, on a new object, for
 * every handful of questions, so that no object is asked more than 512 times.
 */
final class Views {
    private static final int LEAST = 150;
    private static final List<int[]> QUESTIONS = questions();
    private static final List<List<int[]>> DEEDS = List.of(tape(), undoing(), goingBack());

    private Views() { }

    /** A call as its number and what it is given. */
    static int[] call(String name, int... args) {
        int[] call = new int[args.length + 1];
        call[0] = Calls.numberOf(name);
        System.arraycopy(args, 0, call, 1, args.length);
        return call;
    }

    /** What each question answers behind the run. */
    static List<String> of(List<int[]> run) {
        List<String> seen = new ArrayList<>();
        int room = Math.max(Edges.LONGEST - run.size(), LEAST);
        for (int from = 0; from < QUESTIONS.size(); from += room) {
            ask(run, QUESTIONS.subList(from, Math.min(QUESTIONS.size(), from + room)), seen);
        }
        for (List<int[]> deeds : DEEDS) {
            ask(run, deeds, seen);
        }
        return seen;
    }

    private static void ask(List<int[]> run, List<int[]> questions, List<String> seen) {
        TollOfNames x = new TollOfNames();
        for (int[] call : run) {
            answer(x, call);
        }
        for (int[] call : questions) {
            StringBuilder text = new StringBuilder(Calls.NAMES[call[0]]);
            for (int i = 1; i < call.length; i++) {
                text.append(' ').append(call[i]);
            }
            seen.add(text + " answered " + answer(x, call));
        }
    }

    private static int answer(TollOfNames x, int[] call) {
        int[] args = new int[call.length - 1];
        System.arraycopy(call, 1, args, 0, args.length);
        return Calls.onProgram(x, call[0], args);
    }

    private static void addPeople(List<int[]> all, int... whats) {
        for (int person = 0; person < 8; person++) {
            for (int what : whats) {
                all.add(call("of", person, what));
            }
        }
    }

    private static List<int[]> questions() {
        List<int[]> all = new ArrayList<>();
        for (int what = 0; what < 84; what++) {
            all.add(call("look", what));
        }
        addPeople(all, 0, 1, 2, 3, 4, 5, 6, 10, 11, 12, 13, 14, 15, 16, 17, 18);
        all.add(call("fault", 0));
        all.add(call("fault", 1));
        for (int bridge = 0; bridge < 12; bridge++) {
            for (int name = 0; name < 20; name++) {
                all.add(call("kept", bridge, name));
            }
            // the law can be seen by what is left, the round by its plans
            for (int person = 0; person < 8; person++) {
                all.add(call("behind", person, bridge, bridge, -1, -1, -1));
            }
        }
        for (int person = 0; person < 8; person++) {
            all.add(call("plan", person, 0));
        }
        for (int line = 0; line < 100; line++) {
            for (int what = 0; what < 4; what++) {
                all.add(call("book", line, what));
            }
        }
        return all;
    }

    private static List<int[]> tape() {
        List<int[]> all = new ArrayList<>();
        all.add(call("feed", 0x23232323, 0x23232323, 0x23232323, 0x23232323, 0x23232323));
        all.add(call("text"));
        all.add(call("fault", 0));
        all.add(call("fault", 1));
        all.add(call("look", 8));
        return all;
    }

    private static List<int[]> undoing() {
        List<int[]> all = new ArrayList<>();
        for (int i = 0; i < 9; i++) {
            all.add(call("undo"));
        }
        addPeople(all, 0, 2, 5, 6, 10);
        all.add(call("look", 4));
        return all;
    }

    private static List<int[]> goingBack() {
        List<int[]> all = new ArrayList<>();
        all.add(call("image", 0));
        for (int what = 0; what <= 10; what++) {
            all.add(call("look", what));
        }
        addPeople(all, 0, 1, 4, 5, 6, 10);
        return all;
    }
}
