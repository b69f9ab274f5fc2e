import java.util.ArrayList;
import java.util.Arrays;
import java.util.Comparator;
import java.util.List;
import java.util.TreeSet;

/**
 * The document once more, written for plainness alone: worlds are copied for every thought, laws are trees,
 * and all ways, plans and orders are listed and then sorted. It shares no code with the program.
 */
final class Oracle {
    static final int NONE = -1;

    /** A fault of a text. */
    private static final class Fault extends Exception {
        private static final long serialVersionUID = 1L;
        final int what;
        final int place;

        Fault(int what, int place) {
            super("fault " + what + " at " + place, null, false, false);
            this.what = what;
            this.place = place;
        }
    }

    private record Token(String text, int place) { }

    /** A node of a law: an operator with its sides, or a leaf without. */
    private record Node(String sign, Node left, Node right) { }

    private record Line(boolean leave, Node when) { }

    private record Name(int kind, int letters) { }

    private record BookLine(int person, int bridge, int name, int day) { }

    private static final class Person {
        int place;
        int coin;
        List<Integer> row = new ArrayList<>();
        TreeSet<Integer> christened = new TreeSet<>();
        TreeSet<Integer> left = new TreeSet<>();

        Person copy() {
            Person p = new Person();
            p.place = place;
            p.coin = coin;
            p.row = new ArrayList<>(row);
            p.christened = new TreeSet<>(christened);
            p.left = new TreeSet<>(left);
            return p;
        }
    }

    private static final class Bridge {
        int a;
        int b;
        int[] kept = new int[20];

        Bridge copy() {
            Bridge c = new Bridge();
            c.a = a;
            c.b = b;
            c.kept = kept.clone();
            return c;
        }
    }

    private static final class World {
        int state;
        int gossip;
        int ferry;
        int day;
        List<Name> names = new ArrayList<>();
        List<Person> people = new ArrayList<>();
        List<Bridge> bridges = new ArrayList<>();
        List<Line> law = List.of();
        List<BookLine> book = new ArrayList<>();
        List<Integer> round = new ArrayList<>();

        World copy() {
            World w = new World();
            w.state = state;
            w.gossip = gossip;
            w.ferry = ferry;
            w.day = day;
            w.names = new ArrayList<>(names);
            for (Person p : people) {
                w.people.add(p.copy());
            }
            for (Bridge b : bridges) {
                w.bridges.add(b.copy());
            }
            w.law = law;
            w.book = new ArrayList<>(book);
            w.round = new ArrayList<>(round);
            return w;
        }

        int draw(int m) {
            state = state * 1664525 + 1013904223;
            return (int) ((state & 0xffffffffL) / 256 % m);
        }

        int value(Node n, int person, int bridge, int name) {
            Person p = people.get(person);
            switch (n.sign()) {
                case "kind": return names.get(name).kind();
                case "letters": return names.get(name).letters();
                case "names": return p.row.size();
                case "order": return p.row.indexOf(name);
                case "like": return (int) people.stream().filter(q -> q != p && q.row.contains(name)).count();
                case "bridge": return bridge;
                case "day": return day;
                case "kept": return bridges.get(bridge).kept[name];
                case "+": return value(n.left(), person, bridge, name) + value(n.right(), person, bridge, name);
                case "-": return value(n.left(), person, bridge, name) - value(n.right(), person, bridge, name);
                case "*": return value(n.left(), person, bridge, name) * value(n.right(), person, bridge, name);
                case "/": return value(n.left(), person, bridge, name) / value(n.right(), person, bridge, name);
                default: return Integer.parseInt(n.sign());
            }
        }

        boolean holds(Node n, int person, int bridge, int name) {
            switch (n.sign()) {
                case "or": return holds(n.left(), person, bridge, name) || holds(n.right(), person, bridge, name);
                case "and": return holds(n.left(), person, bridge, name) && holds(n.right(), person, bridge, name);
                case "not": return !holds(n.left(), person, bridge, name);
                case "<": return value(n.left(), person, bridge, name) < value(n.right(), person, bridge, name);
                case "=": return value(n.left(), person, bridge, name) == value(n.right(), person, bridge, name);
                default: return value(n.left(), person, bridge, name) > value(n.right(), person, bridge, name);
            }
        }

        boolean mayBeLeft(int person, int bridge, int name) {
            for (Line line : law) {
                if (line.when() == null || holds(line.when(), person, bridge, name)) {
                    return line.leave();
                }
            }
            return true;
        }

        int lettersOf(Person p) {
            return p.row.stream().mapToInt(n -> names.get(n).letters()).sum();
        }

        /** As cross() answers; the deed is done if it is a name or free. */
        int crossing(int person, int bridge) {
            if (person < 0 || person >= people.size() || bridge < 0 || bridge >= bridges.size()) {
                return NONE;
            }
            Person p = people.get(person);
            Bridge b = bridges.get(bridge);
            if (p.place != b.a && p.place != b.b) {
                return NONE;
            }
            int paid = 100;
            if (lettersOf(p) > ferry) {
                paid = -2;
                for (int n : p.row) {
                    if (mayBeLeft(person, bridge, n)) {
                        paid = n;
                        break;
                    }
                }
                if (paid == -2) {
                    return -2;
                }
                p.row.remove(Integer.valueOf(paid));
                p.left.add(paid);
                b.kept[paid]++;
                if (book.size() < 100) {
                    book.add(new BookLine(person, bridge, paid, day));
                }
            }
            p.place = p.place == b.a ? b.b : b.a;
            return paid;
        }

        boolean aloneAmong(Person p, List<Person> all) {
            for (int n : p.row) {
                if (all.stream().noneMatch(q -> q != p && q.row.contains(n))) {
                    return true;
                }
            }
            return false;
        }
    }

    private World world = new World();
    private World image;
    private final List<World> before = new ArrayList<>();
    private StringBuilder tape = new StringBuilder();
    private int fault;
    private int faultPlace = NONE;

    private boolean isName(int n) {
        return n >= 0 && n < world.names.size();
    }

    private boolean isPerson(int p) {
        return p >= 0 && p < world.people.size();
    }

    private boolean isBridge(int b) {
        return b >= 0 && b < world.bridges.size();
    }

    private static int setOf(Iterable<Integer> members) {
        int set = 0;
        for (int m : members) {
            set |= 1 << m;
        }
        return set;
    }

    int state(int v) {
        int was = world.state;
        world.state = v;
        return was;
    }

    int name(int kind, int letters) {
        if (kind < 0 || kind > 3 || letters < 1 || letters > 12 || world.names.size() == 20) {
            return NONE;
        }
        before.clear();
        world.names.add(new Name(kind, letters));
        return world.names.size() - 1;
    }

    int person(int place, int coin) {
        if (place < 0 || place > 7 || coin < 0 || coin > 9999 || world.people.size() == 8) {
            return NONE;
        }
        before.clear();
        Person p = new Person();
        p.place = place;
        p.coin = coin;
        world.people.add(p);
        return world.people.size() - 1;
    }

    int bridge(int a, int b) {
        if (a < 0 || a > 7 || b < 0 || b > 7 || a == b || world.bridges.size() == 12) {
            return NONE;
        }
        before.clear();
        Bridge c = new Bridge();
        c.a = a;
        c.b = b;
        world.bridges.add(c);
        return world.bridges.size() - 1;
    }

    boolean christen(int person, int name) {
        if (!isPerson(person) || !isName(name)) {
            return false;
        }
        Person p = world.people.get(person);
        if (p.row.contains(name) || p.row.size() == 9) {
            return false;
        }
        before.clear();
        p.row.add(name);
        p.christened.add(name);
        return true;
    }

    boolean set(int what, int person, int v) {
        if (what < 0 || what > 3 || v < 0 || v > new int[] {1000, 99, 9999, 7}[what]) {
            return false;
        }
        if (what >= 2 && !isPerson(person)) {
            return false;
        }
        before.clear();
        if (what == 0) {
            world.gossip = v;
        } else if (what == 1) {
            world.ferry = v;
        } else if (what == 2) {
            world.people.get(person).coin = v;
        } else {
            world.people.get(person).place = v;
        }
        return true;
    }

    int feed(int a, int b, int c, int d, int e) {
        if (tape.length() > 380) {
            return NONE;
        }
        for (int v : new int[] {a, b, c, d, e}) {
            tape.append((char) (v >> 24 & 255)).append((char) (v >> 16 & 255));
            tape.append((char) (v >> 8 & 255)).append((char) (v & 255));
        }
        return tape.length();
    }

    boolean end(int n) {
        if (n < 0 || n > tape.length()) {
            return false;
        }
        tape.setLength(n);
        return true;
    }

    int text() {
        String text = tape.toString();
        tape = new StringBuilder();
        try {
            world.law = new Reader(text).law();
            fault = 0;
            faultPlace = NONE;
            return world.law.size();
        } catch (Fault f) {
            fault = f.what;
            faultPlace = f.place;
            return NONE;
        }
    }

    int fault(int what) {
        return what == 0 ? fault : what == 1 ? faultPlace : NONE;
    }

    int cross(int person, int bridge) {
        World was = world.copy();
        int paid = world.crossing(person, bridge);
        if (paid >= 0) {
            before.add(was);
            if (before.size() > 8) {
                before.remove(0);
            }
        }
        return paid;
    }

    boolean take(int person, int bridge, int name) {
        if (!isPerson(person) || !isBridge(bridge) || !isName(name)) {
            return false;
        }
        Person p = world.people.get(person);
        Bridge b = world.bridges.get(bridge);
        boolean there = p.place == b.a || p.place == b.b;
        if (!there || b.kept[name] == 0 || p.row.contains(name) || p.row.size() == 9) {
            return false;
        }
        before.clear();
        b.kept[name]--;
        p.row.add(name);
        return true;
    }

    int day() {
        if (world.day == 9999) {
            return NONE;
        }
        before.clear();
        world.day++;
        int grown = 0;
        for (Person p : world.people) {
            List<Integer> lost = new ArrayList<>(p.christened);
            lost.removeAll(p.row);
            if (world.gossip > 0 && !lost.isEmpty() && p.row.size() < 9 && world.draw(1000) < world.gossip) {
                p.row.add(lost.get(world.draw(lost.size())));
                grown++;
            }
        }
        return grown;
    }

    int of(int person, int what) {
        if (!isPerson(person)) {
            return NONE;
        }
        Person p = world.people.get(person);
        switch (what) {
            case 0: return p.place;
            case 1: return p.coin;
            case 2: return p.row.size();
            case 3: return world.lettersOf(p);
            case 4: return setOf(p.christened);
            case 5: return setOf(p.left);
            case 6: return setOf(p.row);
            default: return what >= 10 && what < 10 + p.row.size() ? p.row.get(what - 10) : NONE;
        }
    }

    int kept(int bridge, int name) {
        return isBridge(bridge) && isName(name) ? world.bridges.get(bridge).kept[name] : NONE;
    }

    int book(int i, int what) {
        if (i < 0 || i >= world.book.size() || what < 0 || what > 3) {
            return NONE;
        }
        BookLine line = world.book.get(i);
        return new int[] {line.person(), line.bridge(), line.name(), line.day()}[what];
    }

    int called(int place, int name) {
        if (place < 0 || place > 7 || !isName(name)) {
            return NONE;
        }
        int set = 0;
        for (int i = 0; i < world.people.size(); i++) {
            Person p = world.people.get(i);
            set |= p.place == place && p.row.contains(name) ? 1 << i : 0;
        }
        return set;
    }

    int alone(int place) {
        if (place < 0 || place > 7) {
            return NONE;
        }
        List<Person> there = world.people.stream().filter(p -> p.place == place).toList();
        int set = 0;
        for (Person p : there) {
            set |= world.aloneAmong(p, there) ? 1 << world.people.indexOf(p) : 0;
        }
        return set;
    }

    int cousins(int person) {
        if (!isPerson(person)) {
            return NONE;
        }
        TreeSet<Integer> family = new TreeSet<>(List.of(person));
        boolean more = true;
        while (more) {
            more = false;
            for (int q = 0; q < world.people.size(); q++) {
                for (int member : List.copyOf(family)) {
                    TreeSet<Integer> common = new TreeSet<>(world.people.get(q).left);
                    common.retainAll(world.people.get(member).left);
                    more |= !common.isEmpty() && family.add(q);
                }
            }
        }
        family.remove(person);
        return setOf(family);
    }

    int estate(int person) {
        int cousins = cousins(person);
        return cousins <= 0 ? NONE : world.people.get(person).coin / Integer.bitCount(cousins);
    }

    int behind(int person, int a, int b, int c, int d, int e) {
        if (!isPerson(person) || a == NONE) {
            return NONE;
        }
        List<Integer> way = new ArrayList<>(List.of(a, b, c, d, e));
        if (way.contains(NONE)) {
            way = way.subList(0, way.indexOf(NONE));
        }
        // walked twice: where every crossing is free it shows alone whether the row can be
        World freely = world.copy();
        freely.ferry = Integer.MAX_VALUE;
        World thought = world.copy();
        boolean through = true;
        for (int bridge : way) {
            if (freely.crossing(person, bridge) == NONE) {
                return NONE;
            }
            through = through && thought.crossing(person, bridge) >= 0;
        }
        return through ? setOf(thought.people.get(person).row) : -2;
    }

    private record Way(int names, List<Integer> bridges) { }

    private static int compareRows(List<Integer> x, List<Integer> y) {
        for (int i = 0; i < Math.min(x.size(), y.size()); i++) {
            if (!x.get(i).equals(y.get(i))) {
                return x.get(i) - y.get(i);
            }
        }
        return x.size() - y.size();
    }

    private void listWays(World at, int person, int goal, TreeSet<Integer> seen, Way way, List<Way> all) {
        if (at.people.get(person).place == goal) {
            all.add(way);
            return;
        }
        for (int b = at.bridges.size() - 1; b >= 0; b--) {
            World next = at.copy();
            int paid = next.crossing(person, b);
            int place = next.people.get(person).place;
            if (paid < 0 || seen.contains(place)) {
                continue;
            }
            TreeSet<Integer> nextSeen = new TreeSet<>(seen);
            nextSeen.add(place);
            List<Integer> row = new ArrayList<>(way.bridges());
            row.add(b);
            listWays(next, person, goal, nextSeen, new Way(way.names() + (paid == 100 ? 0 : 1), row), all);
        }
    }

    int best(int person, int place, int what) {
        if (!isPerson(person) || place < 0 || place > 7 || world.people.get(person).place == place) {
            return NONE;
        }
        List<Way> all = new ArrayList<>();
        TreeSet<Integer> seen = new TreeSet<>(List.of(world.people.get(person).place));
        listWays(world, person, place, seen, new Way(0, List.of()), all);
        if (all.isEmpty()) {
            return NONE;
        }
        all.sort(Comparator.comparingInt(Way::names).thenComparingInt(w -> w.bridges().size())
                .thenComparing(Way::bridges, Oracle::compareRows));
        Way best = all.get(0);
        if (what == 0) {
            return best.names();
        }
        if (what == 1) {
            return best.bridges().size();
        }
        return what >= 10 && what < 10 + best.bridges().size() ? best.bridges().get(what - 10) : NONE;
    }

    int round(int bridge) {
        if (bridge == NONE) {
            world.round.clear();
            return 0;
        }
        if (!isBridge(bridge) || world.round.size() == 12) {
            return NONE;
        }
        world.round.add(bridge);
        return world.round.size();
    }

    private boolean roundWith(int person, int names) {
        World thought = world.copy();
        for (int n = 0; n < 20; n++) {
            if ((names >> n & 1) != 0) {
                thought.people.get(person).row.add(n);
            }
        }
        for (int b : world.round) {
            if (thought.crossing(person, b) < 0) {
                return false;
            }
        }
        return true;
    }

    private static List<Integer> members(int set) {
        List<Integer> list = new ArrayList<>();
        for (int i = 0; i < 31; i++) {
            if ((set >> i & 1) != 0) {
                list.add(i);
            }
        }
        return list;
    }

    int plan(int person, int what) {
        if (!isPerson(person) || world.round.isEmpty()) {
            return NONE;
        }
        Person p = world.people.get(person);
        List<Integer> sets = new ArrayList<>();
        for (int set = 0; set < 1 << world.names.size(); set++) {
            int size = Integer.bitCount(set);
            if (size <= 3 && size + p.row.size() <= 9 && (set & setOf(p.row)) == 0) {
                sets.add(set);
            }
        }
        sets.sort(Comparator.<Integer>comparingInt(Integer::bitCount)
                .thenComparing(Oracle::members, Oracle::compareRows));
        for (int set : sets) {
            if (roundWith(person, set)) {
                List<Integer> names = members(set);
                if (what == 0) {
                    return names.size();
                }
                return what >= 10 && what < 10 + names.size() ? names.get(what - 10) : NONE;
            }
        }
        return NONE;
    }

    int night(int person, int as) {
        if (!isPerson(person) || !isPerson(as) || person == as) {
            return NONE;
        }
        List<Integer> missing = new ArrayList<>(world.people.get(as).row);
        missing.removeAll(world.people.get(person).row);
        for (int n : missing) {
            if (world.bridges.stream().noneMatch(b -> b.kept[n] > 0)) {
                return NONE;
            }
        }
        return missing.size() + world.people.get(person).row.size() > 9 ? NONE : missing.size();
    }

    private static void listOrders(List<Integer> done, List<Integer> waiting, List<List<Integer>> all) {
        if (waiting.isEmpty()) {
            all.add(done);
        }
        for (Integer p : waiting) {
            List<Integer> nextDone = new ArrayList<>(done);
            nextDone.add(p);
            List<Integer> nextWaiting = new ArrayList<>(waiting);
            nextWaiting.remove(p);
            listOrders(nextDone, nextWaiting, all);
        }
    }

    private int aloneBehind(List<Integer> order, int bridge) {
        World thought = world.copy();
        for (int p : order) {
            if (thought.crossing(p, bridge) < 0) {
                return NONE;
            }
        }
        List<Person> them = order.stream().map(thought.people::get).toList();
        return (int) them.stream().filter(p -> thought.aloneAmong(p, them)).count();
    }

    int order(int set, int bridge, int what) {
        if (!isBridge(bridge) || set <= 0 || set >= 1 << world.people.size() || Integer.bitCount(set) > 6) {
            return NONE;
        }
        List<Integer> who = members(set);
        Bridge b = world.bridges.get(bridge);
        for (int p : who) {
            int place = world.people.get(p).place;
            if (place != world.people.get(who.get(0)).place || (place != b.a && place != b.b)) {
                return NONE;
            }
        }
        List<List<Integer>> all = new ArrayList<>();
        listOrders(List.of(), who, all);
        int most = NONE;
        List<Integer> best = List.of();
        for (List<Integer> order : all) {
            int alone = aloneBehind(order, bridge);
            if (alone > most) {
                most = alone;
                best = order;
            }
        }
        if (what == 0) {
            return most;
        }
        return what >= 10 && what < 10 + best.size() ? best.get(what - 10) : NONE;
    }

    boolean undo() {
        if (before.isEmpty()) {
            return false;
        }
        World was = before.remove(before.size() - 1);
        was.law = world.law;
        was.round = world.round;
        was.state = world.state;
        world = was;
        return true;
    }

    boolean image(boolean taken) {
        if (taken) {
            image = world.copy();
            return true;
        }
        if (image == null) {
            return false;
        }
        world = image.copy();
        before.clear();
        return true;
    }

    int look(int what) {
        if (what >= 0 && what <= 10) {
            return new int[] {world.names.size(), world.people.size(), world.bridges.size(), world.day,
                world.book.size(), world.state, world.gossip, world.ferry, world.law.size(), world.round.size(),
                before.size()}[what];
        }
        if (what >= 20 && what < 40 && isName(what - 20)) {
            return world.names.get(what - 20).kind();
        }
        if (what >= 40 && what < 60 && isName(what - 40)) {
            return world.names.get(what - 40).letters();
        }
        if (what >= 60 && isBridge((what - 60) / 2)) {
            Bridge b = world.bridges.get((what - 60) / 2);
            return what % 2 == 0 ? b.a : b.b;
        }
        return NONE;
    }

    /** Reads a law by its grammar; the first fault by its place ends it. */
    private static final class Reader {
        private static final List<String> WORDS = Arrays.asList("leave", "keep", "when", "or", "and", "not", "kind",
                "letters", "names", "order", "like", "bridge", "day", "kept");
        private final List<Token> tokens = new ArrayList<>();
        private int at;
        private int open;

        Reader(String text) {
            int i = 0;
            while (i < text.length()) {
                int j = i;
                while (j < text.length() && (text.charAt(j) | 32) >= 'a' && (text.charAt(j) | 32) <= 'z') {
                    j++;
                }
                if (j == i) {
                    while (j < text.length() && text.charAt(j) >= '0' && text.charAt(j) <= '9') {
                        j++;
                    }
                }
                j = Math.max(j, i + 1);
                String part = text.substring(i, j);
                if (!part.equals(" ") && !part.equals("\n")) {
                    boolean good = WORDS.contains(part) || part.matches("[0-9]{1,4}") || part.matches("[;+*/()<=>-]");
                    tokens.add(new Token(good ? part : "?", i));
                }
                i = j;
            }
            tokens.add(new Token("", text.length()));
        }

        private String now() {
            return tokens.get(at).text();
        }

        private Fault fault(int what) {
            return new Fault(what, tokens.get(at).place());
        }

        private void need(String... choices) throws Fault {
            if (!Arrays.asList(choices).contains(now())) {
                throw fault(1);
            }
        }

        List<Line> law() throws Fault {
            List<Line> lines = new ArrayList<>();
            while (!now().isEmpty()) {
                need("leave", "keep");
                if (lines.size() == 16) {
                    throw fault(3);
                }
                boolean leave = now().equals("leave");
                at++;
                Node when = null;
                if (now().equals("when")) {
                    at++;
                    when = either();
                }
                need(";");
                at++;
                lines.add(new Line(leave, when));
            }
            return lines;
        }

        private Node either() throws Fault {
            Node left = both();
            while (now().equals("or")) {
                at++;
                left = new Node("or", left, both());
            }
            return left;
        }

        private Node both() throws Fault {
            Node left = claim();
            while (now().equals("and")) {
                at++;
                left = new Node("and", left, claim());
            }
            return left;
        }

        private Node claim() throws Fault {
            if (now().equals("not") || now().equals("(")) {
                boolean not = now().equals("not");
                open++;
                if (open == 9) {
                    throw fault(3);
                }
                at++;
                Node inner = not ? new Node("not", claim(), null) : either();
                if (!not) {
                    need(")");
                    at++;
                }
                open--;
                return inner;
            }
            Node left = sum();
            need("<", "=", ">");
            String sign = now();
            at++;
            return new Node(sign, left, sum());
        }

        private Node sum() throws Fault {
            Node left = product();
            while (now().equals("+") || now().equals("-")) {
                String sign = now();
                at++;
                left = new Node(sign, left, product());
            }
            return left;
        }

        private Node product() throws Fault {
            Node left = unit();
            while (now().equals("*") || now().equals("/")) {
                String sign = now();
                at++;
                if (sign.equals("/")) {
                    if (!now().matches("[0-9]+")) {
                        throw fault(1);
                    }
                    if (Integer.parseInt(now()) == 0) {
                        throw fault(2);
                    }
                }
                left = new Node(sign, left, unit());
            }
            return left;
        }

        private Node unit() throws Fault {
            if (!now().matches("[0-9]+")) {
                need("kind", "letters", "names", "order", "like", "bridge", "day", "kept");
            }
            Node leaf = new Node(now(), null, null);
            at++;
            return leaf;
        }
    }
}
