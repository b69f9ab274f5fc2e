/** Every call of the face by its number, on the program and on the oracle alike (a boolean counts 1 or 0). */
final class Calls {
    static final String[] NAMES = {"state", "name", "person", "bridge", "christen", "set", "feed", "end", "text", "fault",
        "cross", "take", "day", "of", "kept", "book", "called", "alone", "cousins", "estate", "behind", "best", "round",
        "plan", "night", "order", "undo", "image", "look"};
    static final int[] COUNTS = {1, 2, 2, 2, 2, 3, 5, 1, 0, 1, 2, 3, 0, 2, 2, 2, 2, 1, 1, 1, 6, 3, 1, 2, 2, 3, 0, 1, 1};

    private Calls() { }

    static int numberOf(String name) {
        for (int i = 0; i < NAMES.length; i++) {
            if (NAMES[i].equals(name)) {
                return i;
            }
        }
        throw new IllegalArgumentException(name);
    }

    private static int bit(boolean b) {
        return b ? 1 : 0;
    }

    static int onProgram(TollOfNames x, int call, int[] a) {
        switch (NAMES[call]) {
            case "state": return x.state(a[0]);
            case "name": return x.name(a[0], a[1]);
            case "person": return x.person(a[0], a[1]);
            case "bridge": return x.bridge(a[0], a[1]);
            case "christen": return bit(x.christen(a[0], a[1]));
            case "set": return bit(x.set(a[0], a[1], a[2]));
            case "feed": return x.feed(a[0], a[1], a[2], a[3], a[4]);
            case "end": return bit(x.end(a[0]));
            case "text": return x.text();
            case "fault": return x.fault(a[0]);
            case "cross": return x.cross(a[0], a[1]);
            case "take": return bit(x.take(a[0], a[1], a[2]));
            case "day": return x.day();
            case "of": return x.of(a[0], a[1]);
            case "kept": return x.kept(a[0], a[1]);
            case "book": return x.book(a[0], a[1]);
            case "called": return x.called(a[0], a[1]);
            case "alone": return x.alone(a[0]);
            case "cousins": return x.cousins(a[0]);
            case "estate": return x.estate(a[0]);
            case "behind": return x.behind(a[0], a[1], a[2], a[3], a[4], a[5]);
            case "best": return x.best(a[0], a[1], a[2]);
            case "round": return x.round(a[0]);
            case "plan": return x.plan(a[0], a[1]);
            case "night": return x.night(a[0], a[1]);
            case "order": return x.order(a[0], a[1], a[2]);
            case "undo": return bit(x.undo());
            case "image": return bit(x.image(a[0] != 0));
            default: return x.look(a[0]);
        }
    }

    static int onOracle(Oracle x, int call, int[] a) {
        switch (NAMES[call]) {
            case "state": return x.state(a[0]);
            case "name": return x.name(a[0], a[1]);
            case "person": return x.person(a[0], a[1]);
            case "bridge": return x.bridge(a[0], a[1]);
            case "christen": return bit(x.christen(a[0], a[1]));
            case "set": return bit(x.set(a[0], a[1], a[2]));
            case "feed": return x.feed(a[0], a[1], a[2], a[3], a[4]);
            case "end": return bit(x.end(a[0]));
            case "text": return x.text();
            case "fault": return x.fault(a[0]);
            case "cross": return x.cross(a[0], a[1]);
            case "take": return bit(x.take(a[0], a[1], a[2]));
            case "day": return x.day();
            case "of": return x.of(a[0], a[1]);
            case "kept": return x.kept(a[0], a[1]);
            case "book": return x.book(a[0], a[1]);
            case "called": return x.called(a[0], a[1]);
            case "alone": return x.alone(a[0]);
            case "cousins": return x.cousins(a[0]);
            case "estate": return x.estate(a[0]);
            case "behind": return x.behind(a[0], a[1], a[2], a[3], a[4], a[5]);
            case "best": return x.best(a[0], a[1], a[2]);
            case "round": return x.round(a[0]);
            case "plan": return x.plan(a[0], a[1]);
            case "night": return x.night(a[0], a[1]);
            case "order": return x.order(a[0], a[1], a[2]);
            case "undo": return bit(x.undo());
            case "image": return bit(x.image(a[0] != 0));
            default: return x.look(a[0]);
        }
    }
}
