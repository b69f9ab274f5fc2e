import java.util.Arrays;

/** Toll of names: at a bridge each must leave one name of his own, till he has none. */
public final class TollOfNames {
    public static final int NONE = -1;

    /** What a crossing answers if no name may be left, and if the ferry takes one for nothing. */
    private static final int BLOCKED = -2;
    private static final int FREE = 100;

    private static final int MAX_NAMES = 20;
    private static final int KINDS = 4;
    private static final int MAX_LETTERS = 12;
    private static final int PLACES = 8;
    private static final int MAX_PEOPLE = 8;
    private static final int MAX_COIN = 9999;
    private static final int MAX_ROW = 9;
    private static final int MAX_BRIDGES = 12;
    private static final int MAX_GOSSIP = 1000;
    private static final int MAX_FERRY = 99;
    private static final int LAST_DAY = 9999;
    private static final int MAX_TAPE = 400;
    private static final int MAX_LINES = 16;
    private static final int MAX_OPEN = 8;
    private static final int MAX_BOOK = 100;
    private static final int BOOK_PARTS = 4;
    private static final int MAX_BEHIND = 5;
    private static final int MAX_ROUND = 12;
    private static final int MAX_PLAN = 3;
    private static final int MAX_ORDER = 6;
    private static final int MAX_UNDO = 8;

    /** From this "what" on, the parts of a row are asked for by their places. */
    private static final int ROW_FROM = 10;
    private static final int LOOK_KINDS = 20;
    private static final int LOOK_LETTERS = 40;
    private static final int LOOK_SIDES = 60;

    /** Tokens of the law, which stand in its code too: numbers are themselves, below all others. */
    private static final int TOKEN_END = -1;
    private static final int TOKEN_BAD = -2;
    private static final int MAX_DIGITS = 4;
    private static final int WORD = 10000;
    private static final int LEAVE = WORD;
    private static final int KEEP = WORD + 1;
    private static final int WHEN = WORD + 2;
    private static final int OR = WORD + 3;
    private static final int AND = WORD + 4;
    private static final int NOT = WORD + 5;
    private static final int FACT = WORD + 6;
    private static final int FACTS = 8;
    private static final String WORDS =
            "leave keep when or and not kind letters names order like bridge day kept ";
    private static final int SIGN = 20000;
    private static final String SIGNS = ";+-*/()<=>";

    private static final int FAULT_STANDING = 1;
    private static final int FAULT_PART = 2;
    private static final int FAULT_MUCH = 3;

    private final World now;
    private final World old;
    private boolean hasImage;
    private final LawReader reader;
    private final Trail trail;
    private final Toll toll;
    private final Walk walk;
    private final BestWay bestWay;
    private final RoundPlan roundPlan;
    private final BestOrder bestOrder;

    public TollOfNames() {
        World world = new World();
        Toll rules = new Toll(world);
        Walk steps = new Walk(world, rules);
        now = world;
        old = new World();
        hasImage = false;
        reader = new LawReader();
        trail = new Trail();
        toll = rules;
        walk = steps;
        bestWay = new BestWay(world, rules);
        roundPlan = new RoundPlan(world, steps);
        bestOrder = new BestOrder(world, rules);
    }

    public int state(int v) {
        int before = now.state;
        now.state = v;
        return before;
    }

    public int name(int kind, int letters) {
        if (!within(kind, 0, KINDS - 1) || !within(letters, 1, MAX_LETTERS) || now.nameCount >= MAX_NAMES) {
            return NONE;
        }
        trail.forget();
        int number = now.nameCount;
        now.kinds[number] = kind;
        now.letters[number] = letters;
        now.nameCount = number + 1;
        return number;
    }

    public int person(int place, int coin) {
        if (!isPlace(place) || !within(coin, 0, MAX_COIN) || now.people.count >= MAX_PEOPLE) {
            return NONE;
        }
        trail.forget();
        return now.people.add(place, coin);
    }

    public int bridge(int a, int b) {
        if (!isPlace(a) || !isPlace(b) || a == b || now.bridges.count >= MAX_BRIDGES) {
            return NONE;
        }
        trail.forget();
        return now.bridges.add(a, b);
    }

    public boolean christen(int person, int name) {
        if (!now.isPerson(person) || !now.isName(name) || !now.people.canGain(person, name)) {
            return false;
        }
        trail.forget();
        now.people.append(person, name);
        now.people.christened[person] |= 1 << name;
        return true;
    }

    public boolean set(int what, int person, int v) {
        boolean done = what == 0 || what == 1 ? setForAll(what, v) : setOfPerson(what, person, v);
        if (done) {
            trail.forget();
        }
        return done;
    }

    public int feed(int a, int b, int c, int d, int e) {
        if (!reader.hasRoom()) {
            return NONE;
        }
        reader.put(a);
        reader.put(b);
        reader.put(c);
        reader.put(d);
        reader.put(e);
        return reader.length;
    }

    public boolean end(int n) {
        if (!within(n, 0, reader.length)) {
            return false;
        }
        reader.length = n;
        return true;
    }

    public int text() {
        boolean good = reader.read();
        reader.length = 0;
        if (!good) {
            return NONE;
        }
        now.law.copyFrom(reader.draft);
        return now.law.lines;
    }

    public int fault(int what) {
        if (what == 0) {
            return reader.fault;
        }
        return what == 1 ? reader.faultPlace : NONE;
    }

    public int cross(int person, int bridge) {
        if (!now.isPerson(person) || !now.standsAt(person, bridge)) {
            return NONE;
        }
        int due = toll.due(person, bridge);
        if (due == BLOCKED) {
            return BLOCKED;
        }
        int left = now.people.left[person];
        int name = toll.pass(person, bridge, due);
        boolean booked = false;
        if (due != FREE) {
            now.people.left[person] |= 1 << name;
            booked = now.enter(person, bridge, name);
        }
        trail.add(person, bridge, due, name, left, booked);
        return name;
    }

    public boolean take(int person, int bridge, int name) {
        if (!now.isPerson(person) || !now.isName(name) || !now.standsAt(person, bridge)) {
            return false;
        }
        if (now.bridges.keptOf(bridge, name) < 1 || !now.people.canGain(person, name)) {
            return false;
        }
        trail.forget();
        now.bridges.changeKept(bridge, name, -1);
        now.people.append(person, name);
        return true;
    }

    public int day() {
        if (now.day >= LAST_DAY) {
            return NONE;
        }
        trail.forget();
        now.day++;
        int grown = 0;
        for (int person = 0; person < now.people.count; person++) {
            if (now.growBack(person)) {
                grown++;
            }
        }
        return grown;
    }

    public int of(int person, int what) {
        if (!now.isPerson(person)) {
            return NONE;
        }
        People people = now.people;
        switch (what) {
            case 0: return people.places[person];
            case 1: return people.coins[person];
            case 2: return people.sizes[person];
            case 3: return now.lettersOf(person);
            case 4: return people.christened[person];
            case 5: return people.left[person];
            case 6: return people.has[person];
            default: return isPart(what, people.sizes[person]) ? people.nameAt(person, what - ROW_FROM) : NONE;
        }
    }

    public int kept(int bridge, int name) {
        return now.isBridge(bridge) && now.isName(name) ? now.bridges.keptOf(bridge, name) : NONE;
    }

    public int book(int i, int what) {
        if (!within(i, 0, now.bookCount - 1) || !within(what, 0, BOOK_PARTS - 1)) {
            return NONE;
        }
        return now.book[i * BOOK_PARTS + what];
    }

    public int called(int place, int name) {
        if (!isPlace(place) || !now.isName(name)) {
            return NONE;
        }
        int answering = 0;
        for (int person = 0; person < now.people.count; person++) {
            if (now.people.places[person] == place && now.people.hasName(person, name)) {
                answering |= 1 << person;
            }
        }
        return answering;
    }

    public int alone(int place) {
        return isPlace(place) ? now.people.aloneAmong(now.people.at(place)) : NONE;
    }

    public int cousins(int person) {
        return now.isPerson(person) ? now.people.cousinsOf(person) : NONE;
    }

    public int estate(int person) {
        if (!now.isPerson(person)) {
            return NONE;
        }
        int heirs = Integer.bitCount(now.people.cousinsOf(person));
        return heirs == 0 ? NONE : now.people.coins[person] / heirs;
    }

    public int behind(int person, int a, int b, int c, int d, int e) {
        if (!now.isPerson(person)) {
            return NONE;
        }
        walk.startWay(a, b, c, d, e);
        // a row that can't be is none, even if one would be stuck before its break
        if (!walk.canBe(now.people.places[person])) {
            return NONE;
        }
        boolean through = walk.go(person);
        int has = now.people.has[person];
        walk.back(person);
        return through ? has : BLOCKED;
    }

    public int best(int person, int place, int what) {
        if (!now.isPerson(person) || !isPlace(place) || now.people.places[person] == place) {
            return NONE;
        }
        if (!bestWay.find(person, place)) {
            return NONE;
        }
        if (what == 0) {
            return bestWay.names;
        }
        if (what == 1) {
            return bestWay.length;
        }
        return isPart(what, bestWay.length) ? bestWay.way[what - ROW_FROM] : NONE;
    }

    public int round(int bridge) {
        if (bridge == NONE) {
            now.roundCount = 0;
            return 0;
        }
        if (!now.isBridge(bridge) || now.roundCount >= MAX_ROUND) {
            return NONE;
        }
        now.round[now.roundCount] = bridge;
        now.roundCount++;
        return now.roundCount;
    }

    public int plan(int person, int what) {
        if (!now.isPerson(person) || (what != 0 && !isPart(what, MAX_PLAN))) {
            return NONE;
        }
        walk.startRound();
        if (!walk.canBe(now.people.places[person])) {
            return NONE;
        }
        toll.remember();
        int count = roundPlan.find(person);
        toll.forget();
        if (what == 0) {
            return count;
        }
        return isPart(what, count) ? roundPlan.names[what - ROW_FROM] : NONE;
    }

    public int night(int person, int as) {
        if (!now.isPerson(person) || !now.isPerson(as) || person == as) {
            return NONE;
        }
        int missing = now.people.has[as] & ~now.people.has[person];
        int thefts = Integer.bitCount(missing);
        if (now.people.sizes[person] + thefts > MAX_ROW) {
            return NONE;
        }
        for (int name = 0; name < now.nameCount; name++) {
            if ((missing >> name & 1) != 0 && !now.bridges.someKeeps(name)) {
                return NONE;
            }
        }
        return thefts;
    }

    public int order(int set, int bridge, int what) {
        if (set >>> now.people.count != 0 || !now.isBridge(bridge)) {
            return NONE;
        }
        int size = Integer.bitCount(set);
        if (!within(size, 1, MAX_ORDER) || (what != 0 && !isPart(what, size))) {
            return NONE;
        }
        if (!now.standTogether(set, bridge) || !bestOrder.find(set, bridge)) {
            return NONE;
        }
        return what == 0 ? bestOrder.most : bestOrder.row[what - ROW_FROM];
    }

    public boolean undo() {
        if (trail.count < 1) {
            return false;
        }
        trail.count--;
        int person = trail.part(Trail.PERSON);
        toll.back(person, trail.part(Trail.BRIDGE), trail.part(Trail.DUE), trail.part(Trail.NAME));
        now.people.left[person] = trail.part(Trail.LEFT);
        if (trail.part(Trail.BOOKED) != 0 && now.bookCount > 0) {
            now.bookCount--;
        }
        return true;
    }

    public boolean image(boolean taken) {
        if (taken) {
            old.copyFrom(now);
            hasImage = true;
            return true;
        }
        if (!hasImage) {
            return false;
        }
        now.copyFrom(old);
        trail.forget();
        return true;
    }

    public int look(int what) {
        switch (what) {
            case 0: return now.nameCount;
            case 1: return now.people.count;
            case 2: return now.bridges.count;
            case 3: return now.day;
            case 4: return now.bookCount;
            case 5: return now.state;
            case 6: return now.gossip;
            case 7: return now.ferry;
            case 8: return now.law.lines;
            case 9: return now.roundCount;
            case 10: return trail.count;
            default: return lookAtParts(what);
        }
    }

    private int lookAtParts(int what) {
        if (within(what, LOOK_KINDS, LOOK_KINDS + now.nameCount - 1)) {
            return now.kinds[what - LOOK_KINDS];
        }
        if (within(what, LOOK_LETTERS, LOOK_LETTERS + now.nameCount - 1)) {
            return now.letters[what - LOOK_LETTERS];
        }
        if (within(what, LOOK_SIDES, LOOK_SIDES + 2 * now.bridges.count - 1)) {
            return now.bridges.sides[what - LOOK_SIDES];
        }
        return NONE;
    }

    private boolean setForAll(int what, int v) {
        if (what == 0 && within(v, 0, MAX_GOSSIP)) {
            now.gossip = v;
            return true;
        }
        if (what == 1 && within(v, 0, MAX_FERRY)) {
            now.ferry = v;
            return true;
        }
        return false;
    }

    private boolean setOfPerson(int what, int person, int v) {
        if (!now.isPerson(person)) {
            return false;
        }
        if (what == 2 && within(v, 0, MAX_COIN)) {
            now.people.coins[person] = v;
            return true;
        }
        if (what == 3 && isPlace(v)) {
            now.people.places[person] = v;
            return true;
        }
        return false;
    }

    private static boolean within(int v, int least, int most) {
        return v >= least && v <= most;
    }

    private static boolean isPlace(int place) {
        return within(place, 0, PLACES - 1);
    }

    private static boolean isPart(int what, int count) {
        return within(what, ROW_FROM, ROW_FROM + count - 1);
    }

    private static boolean isFact(int token) {
        return token >= FACT && token < FACT + FACTS;
    }

    /** The people: each one's row of names stands in nine cells of one array. */
    private static final class People {
        int count;
        final int[] places = new int[MAX_PEOPLE];
        final int[] coins = new int[MAX_PEOPLE];
        final int[] christened = new int[MAX_PEOPLE];
        final int[] left = new int[MAX_PEOPLE];
        final int[] has = new int[MAX_PEOPLE];
        final int[] sizes = new int[MAX_PEOPLE];
        final int[] rows = new int[MAX_PEOPLE * MAX_ROW];

        int add(int place, int coin) {
            int number = count;
            if (number >= MAX_PEOPLE) {
                return NONE;
            }
            places[number] = place;
            coins[number] = coin;
            christened[number] = 0;
            left[number] = 0;
            has[number] = 0;
            sizes[number] = 0;
            count = number + 1;
            return number;
        }

        int nameAt(int person, int order) {
            return rows[person * MAX_ROW + order];
        }

        boolean hasName(int person, int name) {
            return (has[person] >> name & 1) != 0;
        }

        boolean canGain(int person, int name) {
            return sizes[person] < MAX_ROW && !hasName(person, name);
        }

        void append(int person, int name) {
            insert(person, sizes[person], name);
        }

        void insert(int person, int order, int name) {
            int size = sizes[person];
            if (size >= MAX_ROW || order > size) {
                return;
            }
            int cell = person * MAX_ROW + order;
            System.arraycopy(rows, cell, rows, cell + 1, size - order);
            rows[cell] = name;
            sizes[person] = size + 1;
            has[person] |= 1 << name;
        }

        void remove(int person, int order) {
            int size = sizes[person];
            if (order < 0 || order >= size) {
                return;
            }
            int cell = person * MAX_ROW + order;
            has[person] &= ~(1 << rows[cell]);
            System.arraycopy(rows, cell + 1, rows, cell, size - order - 1);
            sizes[person] = size - 1;
        }

        int othersWith(int person, int name) {
            int others = 0;
            for (int other = 0; other < count; other++) {
                if (other != person && hasName(other, name)) {
                    others++;
                }
            }
            return others;
        }

        int at(int place) {
            int there = 0;
            for (int person = 0; person < count; person++) {
                if (places[person] == place) {
                    there |= 1 << person;
                }
            }
            return there;
        }

        int aloneAmong(int some) {
            int had = 0;
            int hadTwice = 0;
            for (int person = 0; person < count; person++) {
                if ((some >> person & 1) != 0) {
                    hadTwice |= had & has[person];
                    had |= has[person];
                }
            }
            int alone = 0;
            for (int person = 0; person < count; person++) {
                if ((some >> person & 1) != 0 && (has[person] & ~hadTwice) != 0) {
                    alone |= 1 << person;
                }
            }
            return alone;
        }

        int cousinsOf(int person) {
            int family = 1 << person;
            int names = left[person];
            // a pass that finds anybody adds one at least, so as many passes as people suffice
            for (int pass = 0; pass < count; pass++) {
                for (int other = 0; other < count; other++) {
                    if ((left[other] & names) != 0) {
                        family |= 1 << other;
                        names |= left[other];
                    }
                }
            }
            return family & ~(1 << person);
        }

        void copyFrom(People from) {
            count = from.count;
            System.arraycopy(from.places, 0, places, 0, MAX_PEOPLE);
            System.arraycopy(from.coins, 0, coins, 0, MAX_PEOPLE);
            System.arraycopy(from.christened, 0, christened, 0, MAX_PEOPLE);
            System.arraycopy(from.left, 0, left, 0, MAX_PEOPLE);
            System.arraycopy(from.has, 0, has, 0, MAX_PEOPLE);
            System.arraycopy(from.sizes, 0, sizes, 0, MAX_PEOPLE);
            System.arraycopy(from.rows, 0, rows, 0, MAX_PEOPLE * MAX_ROW);
        }
    }

    /** The bridges, each with its two places, and what each keeper keeps of every name. */
    private static final class Bridges {
        int count;
        final int[] sides = new int[2 * MAX_BRIDGES];
        final int[] kept = new int[MAX_BRIDGES * MAX_NAMES];

        int add(int a, int b) {
            int number = count;
            if (number >= MAX_BRIDGES) {
                return NONE;
            }
            sides[2 * number] = a;
            sides[2 * number + 1] = b;
            Arrays.fill(kept, number * MAX_NAMES, (number + 1) * MAX_NAMES, 0);
            count = number + 1;
            return number;
        }

        boolean touches(int bridge, int place) {
            return sides[2 * bridge] == place || sides[2 * bridge + 1] == place;
        }

        int across(int bridge, int place) {
            return sides[2 * bridge] == place ? sides[2 * bridge + 1] : sides[2 * bridge];
        }

        int keptOf(int bridge, int name) {
            return kept[bridge * MAX_NAMES + name];
        }

        void changeKept(int bridge, int name, int by) {
            kept[bridge * MAX_NAMES + name] += by;
        }

        boolean someKeeps(int name) {
            for (int bridge = 0; bridge < count; bridge++) {
                if (keptOf(bridge, name) > 0) {
                    return true;
                }
            }
            return false;
        }

        void copyFrom(Bridges from) {
            count = from.count;
            System.arraycopy(from.sides, 0, sides, 0, 2 * MAX_BRIDGES);
            System.arraycopy(from.kept, 0, kept, 0, MAX_BRIDGES * MAX_NAMES);
        }
    }

    /** All that an image holds. */
    private static final class World {
        int state;
        int gossip;
        int ferry;
        int day;
        int nameCount;
        final int[] kinds = new int[MAX_NAMES];
        final int[] letters = new int[MAX_NAMES];
        int bookCount;
        final int[] book = new int[MAX_BOOK * BOOK_PARTS];
        int roundCount;
        final int[] round = new int[MAX_ROUND];
        final People people = new People();
        final Bridges bridges = new Bridges();
        final Law law = new Law();

        boolean isName(int name) {
            return name >= 0 && name < nameCount;
        }

        boolean isPerson(int person) {
            return person >= 0 && person < people.count;
        }

        boolean isBridge(int bridge) {
            return bridge >= 0 && bridge < bridges.count;
        }

        boolean standsAt(int person, int bridge) {
            return isBridge(bridge) && bridges.touches(bridge, people.places[person]);
        }

        boolean standTogether(int some, int bridge) {
            int place = NONE;
            for (int person = 0; person < people.count; person++) {
                if ((some >> person & 1) == 0) {
                    continue;
                }
                if (place == NONE) {
                    place = people.places[person];
                }
                if (people.places[person] != place || !bridges.touches(bridge, place)) {
                    return false;
                }
            }
            return true;
        }

        int lettersOf(int person) {
            int sum = 0;
            for (int order = 0; order < people.sizes[person]; order++) {
                sum += letters[people.nameAt(person, order)];
            }
            return sum;
        }

        boolean enter(int person, int bridge, int name) {
            if (bookCount >= MAX_BOOK) {
                return false;
            }
            int cell = bookCount * BOOK_PARTS;
            book[cell] = person;
            book[cell + 1] = bridge;
            book[cell + 2] = name;
            book[cell + 3] = day;
            bookCount++;
            return true;
        }

        boolean growBack(int person) {
            int lost = people.christened[person] & ~people.has[person];
            if (gossip == 0 || lost == 0 || people.sizes[person] >= MAX_ROW) {
                return false;
            }
            if (draw(1000) >= gossip) {
                return false;
            }
            int skip = draw(Integer.bitCount(lost));
            for (int name = 0; name < nameCount; name++) {
                if ((lost >> name & 1) == 0) {
                    continue;
                }
                if (skip == 0) {
                    people.append(person, name);
                    return true;
                }
                skip--;
            }
            return false;
        }

        int draw(int m) {
            state = 1664525 * state + 1013904223;
            return m < 1 ? 0 : (state >>> 8) % m;
        }

        void copyFrom(World from) {
            state = from.state;
            gossip = from.gossip;
            ferry = from.ferry;
            day = from.day;
            nameCount = from.nameCount;
            System.arraycopy(from.kinds, 0, kinds, 0, MAX_NAMES);
            System.arraycopy(from.letters, 0, letters, 0, MAX_NAMES);
            bookCount = from.bookCount;
            System.arraycopy(from.book, 0, book, 0, MAX_BOOK * BOOK_PARTS);
            roundCount = from.roundCount;
            System.arraycopy(from.round, 0, round, 0, MAX_ROUND);
            people.copyFrom(from.people);
            bridges.copyFrom(from.bridges);
            law.copyFrom(from.law);
        }
    }

    /** The law as one row of tokens: of each line its condition, operators behind their sides, then what it says. */
    private static final class Law {
        int lines;
        int size;
        final int[] code = new int[MAX_TAPE];
        // each open ( holds back a side of an or and a side of an and, a comparison at most four numbers
        private final int[] stack = new int[2 * (MAX_OPEN + 1) + 4];

        void clear() {
            lines = 0;
            size = 0;
        }

        void emit(int token) {
            if (size < MAX_TAPE) {
                code[size] = token;
                size++;
            }
        }

        boolean allows(int[] facts) {
            int top = 0;
            for (int i = 0; i < size; i++) {
                int token = code[i];
                if (token == LEAVE || token == KEEP) {
                    if (top == 0 || stack[0] != 0) {
                        return token == LEAVE;
                    }
                    top = 0;
                } else if (token == NOT) {
                    if (top > 0) {
                        stack[top - 1] = 1 - stack[top - 1];
                    }
                } else if (token == AND || token == OR || token >= SIGN) {
                    if (top > 1) {
                        top--;
                        stack[top - 1] = joined(token, stack[top - 1], stack[top]);
                    }
                } else if (top < stack.length) {
                    stack[top] = isFact(token) ? facts[token - FACT] : token;
                    top++;
                }
            }
            return true;
        }

        private static int joined(int token, int a, int b) {
            switch (token) {
                case SIGN + '+': return a + b;
                case SIGN + '-': return a - b;
                case SIGN + '*': return a * b;
                case SIGN + '/': return b == 0 ? 0 : a / b;
                case SIGN + '<': return a < b ? 1 : 0;
                case SIGN + '=': return a == b ? 1 : 0;
                case SIGN + '>': return a > b ? 1 : 0;
                case AND: return a & b;
                case OR: return a | b;
                default: return 0;
            }
        }

        void copyFrom(Law from) {
            lines = from.lines;
            size = from.size;
            System.arraycopy(from.code, 0, code, 0, MAX_TAPE);
        }
    }

    /** The tape, and how it is read: first into tokens with their places, then from the first token to the last. */
    private static final class LawReader {
        int length;
        int fault = 0;
        int faultPlace = NONE;
        final Law draft = new Law();
        private final int[] tape = new int[MAX_TAPE];
        private final int[] tokens = new int[MAX_TAPE + 1];
        private final int[] places = new int[MAX_TAPE + 1];
        private int at;
        private int token;

        boolean hasRoom() {
            return length + 20 <= MAX_TAPE;
        }

        void put(int number) {
            for (int shift = 24; shift >= 0 && length < MAX_TAPE; shift -= 8) {
                tape[length] = number >>> shift & 255;
                length++;
            }
        }

        boolean read() {
            fault = 0;
            faultPlace = NONE;
            draft.clear();
            scan();
            at = 0;
            token = tokens[0];
            // the seventeenth line is refused, so this ends without its own bound being reached
            for (int line = 0; line <= MAX_LINES && token != TOKEN_END; line++) {
                int verdict = token;
                if (verdict != LEAVE && verdict != KEEP) {
                    return refuse(FAULT_STANDING);
                }
                if (line == MAX_LINES) {
                    return refuse(FAULT_MUCH);
                }
                next();
                if (token == WHEN) {
                    next();
                    if (!readCondition(0)) {
                        return false;
                    }
                }
                if (token != SIGN + ';') {
                    return refuse(FAULT_STANDING);
                }
                next();
                draft.emit(verdict);
                draft.lines++;
            }
            return true;
        }

        private boolean readCondition(int open) {
            for (int i = 0; i < MAX_TAPE; i++) {
                if (!readClaim(open)) {
                    return false;
                }
                for (int j = 0; j < MAX_TAPE && token == AND; j++) {
                    next();
                    if (!readClaim(open)) {
                        return false;
                    }
                    draft.emit(AND);
                }
                if (i > 0) {
                    draft.emit(OR);
                }
                if (token != OR) {
                    return true;
                }
                next();
            }
            return false;
        }

        private boolean readClaim(int open) {
            boolean group = token == SIGN + '(';
            if (!group && token != NOT) {
                return readComparison();
            }
            if (open >= MAX_OPEN) {
                return refuse(FAULT_MUCH);
            }
            next();
            if (!group) {
                boolean good = readClaim(open + 1);
                draft.emit(NOT);
                return good;
            }
            if (!readCondition(open + 1)) {
                return false;
            }
            if (token != SIGN + ')') {
                return refuse(FAULT_STANDING);
            }
            next();
            return true;
        }

        private boolean readComparison() {
            if (!readSum()) {
                return false;
            }
            int comparison = token;
            if (comparison != SIGN + '<' && comparison != SIGN + '=' && comparison != SIGN + '>') {
                return refuse(FAULT_STANDING);
            }
            next();
            if (!readSum()) {
                return false;
            }
            draft.emit(comparison);
            return true;
        }

        private boolean readSum() {
            int waiting = TOKEN_END;
            for (int i = 0; i < MAX_TAPE; i++) {
                if (!readProduct()) {
                    return false;
                }
                if (waiting != TOKEN_END) {
                    draft.emit(waiting);
                }
                if (token != SIGN + '+' && token != SIGN + '-') {
                    return true;
                }
                waiting = token;
                next();
            }
            return false;
        }

        private boolean readProduct() {
            int waiting = TOKEN_END;
            for (int i = 0; i < MAX_TAPE; i++) {
                boolean number = within(token, 0, WORD - 1);
                if (!number && (!isFact(token) || waiting == SIGN + '/')) {
                    return refuse(FAULT_STANDING);
                }
                if (token == 0 && waiting == SIGN + '/') {
                    return refuse(FAULT_PART);
                }
                draft.emit(token);
                if (waiting != TOKEN_END) {
                    draft.emit(waiting);
                }
                next();
                if (token != SIGN + '*' && token != SIGN + '/') {
                    return true;
                }
                waiting = token;
                next();
            }
            return false;
        }

        private boolean refuse(int what) {
            fault = what;
            faultPlace = places[at];
            return false;
        }

        private void next() {
            if (token != TOKEN_END && at < MAX_TAPE) {
                at++;
                token = tokens[at];
            }
        }

        private void scan() {
            int count = 0;
            int place = 0;
            for (int i = 0; i < MAX_TAPE && place < length; i++) {
                int sign = tape[place];
                int stop = place + 1;
                if (sign == ' ' || sign == 10) {
                    place = stop;
                    continue;
                }
                places[count] = place;
                if (isLetter(sign)) {
                    stop = wordEnd(place);
                    tokens[count] = wordOf(place, stop);
                } else if (isDigit(sign)) {
                    stop = numberEnd(place);
                    tokens[count] = numberOf(place, stop);
                } else {
                    tokens[count] = SIGNS.indexOf((char) sign) >= 0 ? SIGN + sign : TOKEN_BAD;
                }
                count++;
                place = stop;
            }
            places[count] = length;
            tokens[count] = TOKEN_END;
        }

        private int wordEnd(int place) {
            int stop = place;
            while (stop < length && isLetter(tape[stop])) {
                stop++;
            }
            return stop;
        }

        private int numberEnd(int place) {
            int stop = place;
            while (stop < length && isDigit(tape[stop])) {
                stop++;
            }
            return stop;
        }

        private int wordOf(int place, int stop) {
            int number = 0;
            int start = 0;
            for (int i = 0; i < WORDS.length(); i++) {
                if (WORDS.charAt(i) != ' ') {
                    continue;
                }
                if (i - start == stop - place && isWritten(start, i, place)) {
                    return WORD + number;
                }
                number++;
                start = i + 1;
            }
            return TOKEN_BAD;
        }

        private boolean isWritten(int start, int end, int place) {
            for (int i = start; i < end; i++) {
                if (WORDS.charAt(i) != tape[place + i - start]) {
                    return false;
                }
            }
            return true;
        }

        private int numberOf(int place, int stop) {
            if (stop - place > MAX_DIGITS) {
                return TOKEN_BAD;
            }
            int number = 0;
            for (int i = place; i < stop; i++) {
                number = number * 10 + tape[i] - '0';
            }
            return number;
        }

        private static boolean isLetter(int sign) {
            return within(sign, 'a', 'z') || within(sign, 'A', 'Z');
        }

        private static boolean isDigit(int sign) {
            return within(sign, '0', '9');
        }
    }

    /** What a crossing costs, and the crossing itself there and back, for deeds and for thoughts alike. */
    private static final class Toll {
        private final World world;
        private final int[] facts = new int[FACTS];
        // of each bridge, name and count of names two bits a place in the row: known, and may be left
        private final int[] verdicts = new int[MAX_BRIDGES * MAX_NAMES * MAX_ROW];
        private boolean remembering = false;

        Toll(World world) {
            this.world = world;
        }

        /** Right only while one person alone moves and gains no name from a keeper: like and kept stay then. */
        void remember() {
            Arrays.fill(verdicts, 0);
            remembering = true;
        }

        void forget() {
            remembering = false;
        }

        /** FREE, BLOCKED, or the place in the row of the name that one leaves. */
        int due(int person, int bridge) {
            if (world.lettersOf(person) <= world.ferry) {
                return FREE;
            }
            for (int order = 0; order < world.people.sizes[person]; order++) {
                if (mayLeave(person, bridge, order)) {
                    return order;
                }
            }
            return BLOCKED;
        }

        private boolean mayLeave(int person, int bridge, int order) {
            int size = world.people.sizes[person];
            int name = world.people.nameAt(person, order);
            int cell = (bridge * MAX_NAMES + name) * MAX_ROW + size - 1;
            int known = 1 << 2 * order;
            int allowed = 2 << 2 * order;
            if (remembering && (verdicts[cell] & known) != 0) {
                return (verdicts[cell] & allowed) != 0;
            }
            facts[0] = world.kinds[name];
            facts[1] = world.letters[name];
            facts[2] = size;
            facts[3] = order;
            facts[4] = world.people.othersWith(person, name);
            facts[5] = bridge;
            facts[6] = world.day;
            facts[7] = world.bridges.keptOf(bridge, name);
            boolean may = world.law.allows(facts);
            if (remembering) {
                verdicts[cell] |= may ? known | allowed : known;
            }
            return may;
        }

        /** Crosses for what is due; answers the name that is left, or FREE. */
        int pass(int person, int bridge, int due) {
            changeSides(person, bridge);
            if (due == FREE) {
                return FREE;
            }
            int name = world.people.nameAt(person, due);
            world.people.remove(person, due);
            world.bridges.changeKept(bridge, name, 1);
            return name;
        }

        void back(int person, int bridge, int due, int name) {
            changeSides(person, bridge);
            if (due != FREE) {
                world.bridges.changeKept(bridge, name, -1);
                world.people.insert(person, due, name);
            }
        }

        private void changeSides(int person, int bridge) {
            world.people.places[person] = world.bridges.across(bridge, world.people.places[person]);
        }
    }

    /** The latest crossings, which can be undone; the last one is told by part() once count is one less. */
    private static final class Trail {
        static final int PERSON = 0;
        static final int BRIDGE = 1;
        static final int DUE = 2;
        static final int NAME = 3;
        static final int LEFT = 4;
        static final int BOOKED = 5;
        private static final int PARTS = 6;

        int count;
        private final int[] cells = new int[MAX_UNDO * PARTS];

        void forget() {
            count = 0;
        }

        int part(int what) {
            return cells[count * PARTS + what];
        }

        void add(int person, int bridge, int due, int name, int left, boolean booked) {
            if (count >= MAX_UNDO) {
                System.arraycopy(cells, PARTS, cells, 0, (MAX_UNDO - 1) * PARTS);
                count = MAX_UNDO - 1;
            }
            int cell = count * PARTS;
            cells[cell + PERSON] = person;
            cells[cell + BRIDGE] = bridge;
            cells[cell + DUE] = due;
            cells[cell + NAME] = name;
            cells[cell + LEFT] = left;
            cells[cell + BOOKED] = booked ? 1 : 0;
            count++;
        }
    }

    /** A row of bridges walked in thought: go() leaves its traces in the world until back() takes them out. */
    private static final class Walk {
        private final World world;
        private final Toll toll;
        private final int[] way = new int[MAX_ROUND];
        private int length;
        private final int[] dues = new int[MAX_ROUND];
        private final int[] names = new int[MAX_ROUND];
        private int steps;

        Walk(World world, Toll toll) {
            this.world = world;
            this.toll = toll;
        }

        void startWay(int a, int b, int c, int d, int e) {
            way[0] = a;
            way[1] = b;
            way[2] = c;
            way[3] = d;
            way[4] = e;
            length = 0;
            while (length < MAX_BEHIND && way[length] != NONE) {
                length++;
            }
        }

        void startRound() {
            System.arraycopy(world.round, 0, way, 0, MAX_ROUND);
            length = world.roundCount;
        }

        /** Some bridges, each of them from where the one before leads; what they cost is not asked. */
        boolean canBe(int start) {
            int place = start;
            for (int i = 0; i < length; i++) {
                if (!world.isBridge(way[i]) || !world.bridges.touches(way[i], place)) {
                    return false;
                }
                place = world.bridges.across(way[i], place);
            }
            return length > 0;
        }

        /** Walks until the end or where one is stuck; answers whether one gets through. */
        boolean go(int person) {
            for (steps = 0; steps < length; steps++) {
                int bridge = way[steps];
                int due = world.standsAt(person, bridge) ? toll.due(person, bridge) : BLOCKED;
                if (due == BLOCKED) {
                    return false;
                }
                dues[steps] = due;
                names[steps] = toll.pass(person, bridge, due);
            }
            return true;
        }

        void back(int person) {
            for (int i = steps - 1; i >= 0; i--) {
                toll.back(person, way[i], dues[i], names[i]);
            }
        }
    }

    /** The way that costs fewest names, by trying all ways in the order of their bridges. */
    private static final class BestWay {
        private final World world;
        private final Toll toll;
        private int person;
        private int goal;
        int names;
        int length;
        final int[] way = new int[PLACES - 1];
        private final int[] tried = new int[PLACES - 1];

        BestWay(World world, Toll toll) {
            this.world = world;
            this.toll = toll;
        }

        boolean find(int who, int place) {
            person = who;
            goal = place;
            names = MAX_ROW + 1;
            length = 0;
            seek(1 << world.people.places[who], 0, 0);
            return length > 0;
        }

        private void seek(int visited, int depth, int cost) {
            if (depth >= PLACES - 1) {
                return;
            }
            int place = world.people.places[person];
            for (int bridge = 0; bridge < world.bridges.count; bridge++) {
                int next = world.bridges.across(bridge, place);
                if (!world.bridges.touches(bridge, place) || (visited >> next & 1) != 0) {
                    continue;
                }
                int due = toll.due(person, bridge);
                int nextCost = due == FREE ? cost : cost + 1;
                if (due == BLOCKED || nextCost > names) {
                    continue;
                }
                tried[depth] = bridge;
                if (next == goal) {
                    consider(depth + 1, nextCost);
                    continue;
                }
                int name = toll.pass(person, bridge, due);
                seek(visited | 1 << next, depth + 1, nextCost);
                toll.back(person, bridge, due, name);
            }
        }

        private void consider(int bridges, int cost) {
            if (cost < names || bridges < length) {
                names = cost;
                length = bridges;
                System.arraycopy(tried, 0, way, 0, bridges);
            }
        }
    }

    /** The fewest christenings for the round that the walk holds, by trying none, one, two, three in their order. */
    private static final class RoundPlan {
        private final World world;
        private final Walk walk;
        final int[] names = new int[MAX_PLAN];

        RoundPlan(World world, Walk walk) {
            this.world = world;
            this.walk = walk;
        }

        int find(int person) {
            int most = Math.min(MAX_PLAN, MAX_ROW - world.people.sizes[person]);
            for (int size = 0; size <= most; size++) {
                if (choose(person, size, 0, 0)) {
                    return size;
                }
            }
            return NONE;
        }

        private boolean choose(int person, int size, int depth, int first) {
            if (depth >= size || depth >= MAX_PLAN) {
                boolean through = walk.go(person);
                walk.back(person);
                return through;
            }
            for (int name = first; name < world.nameCount; name++) {
                if (world.people.hasName(person, name)) {
                    continue;
                }
                names[depth] = name;
                world.people.append(person, name);
                boolean through = choose(person, size, depth + 1, name + 1);
                world.people.remove(person, world.people.sizes[person] - 1);
                if (through) {
                    return true;
                }
            }
            return false;
        }
    }

    /** The order of crossing behind which most can be called alone, by trying all orders, the lesser first. */
    private static final class BestOrder {
        private final World world;
        private final Toll toll;
        private int crowd;
        private int size;
        private int bridge;
        int most;
        final int[] row = new int[MAX_ORDER];
        private final int[] tried = new int[MAX_ORDER];

        BestOrder(World world, Toll toll) {
            this.world = world;
            this.toll = toll;
        }

        boolean find(int some, int over) {
            crowd = some;
            size = Integer.bitCount(some);
            bridge = over;
            most = NONE;
            seek(some, 0);
            return most != NONE;
        }

        private void seek(int waiting, int depth) {
            if (waiting == 0) {
                consider(depth);
                return;
            }
            // nothing behind an order by which all are alone can be better
            if (depth >= MAX_ORDER || most == size) {
                return;
            }
            for (int person = 0; person < world.people.count; person++) {
                if ((waiting >> person & 1) == 0) {
                    continue;
                }
                int due = toll.due(person, bridge);
                if (due == BLOCKED) {
                    continue;
                }
                tried[depth] = person;
                int name = toll.pass(person, bridge, due);
                seek(waiting & ~(1 << person), depth + 1);
                toll.back(person, bridge, due, name);
            }
        }

        private void consider(int people) {
            int alone = Integer.bitCount(world.people.aloneAmong(crowd));
            if (alone > most) {
                most = alone;
                System.arraycopy(tried, 0, row, 0, people);
            }
        }
    }
}
