import java.util.ArrayList;
import java.util.Arrays;
import java.util.List;

/**
 * Tests of single sentences. An edge quotes the words of the document that it holds the program to, and tells a run of
 * calls on a new object, a row each:
 *
 * <pre>
 *   christen 0 9 -> false         a call and what it must answer (nothing is asked of it without the arrow)
 *   19* name 0 1                  a call so many times
 *   name -1,4,MIN 1..12 -> NONE   a call for each of these numbers with each of those
 *   order {0,2} 0 0 -> 2          sets
 *   law keep when kind=0; -> 1    a text is fed, cut to its length and told (\n and \x09 stand for signs)
 *   bad 1 4 keep                  a text that has fault 1 at place 4
 *   # a remark
 * </pre>
 *
 * Of a row that asks only, or that is refused, nothing may stay: the run without it must look the same from outside.
 */
final class Edges {
    static final int LONGEST = 512;
    private static final List<String> QUESTIONS = List.of("fault", "of", "kept", "book", "called", "alone", "cousins",
            "estate", "behind", "best", "plan", "night", "order", "look");

    private record Row(int call, int[] args, boolean asked, int due) {
        String name() {
            return Calls.NAMES[call];
        }

        String told() {
            StringBuilder text = new StringBuilder(name());
            for (int arg : args) {
                text.append(' ').append(arg);
            }
            return text.toString();
        }

        boolean leavesNoTrace() {
            if (QUESTIONS.contains(name())) {
                return true;
            }
            switch (name()) {
                case "christen": case "set": case "end": case "take": case "undo": case "image": return asked && due == 0;
                case "state": case "text": return false;
                default: return asked && due < 0;
            }
        }
    }

    private final Document document = new Document();
    private int edges = 0;
    private int asked = 0;
    private int wrong = 0;
    private String title = "";

    /** Holds the program to the words that are quoted, of this promise or of the terms. */
    void edge(int promise, String quote, String... blocks) {
        List<Row> rows = begin(promise, quote, blocks);
        if (rows.size() > LONGEST) {
            complain("a run of " + rows.size() + " calls: what those behind " + LONGEST + " answer is free");
        }
        check(rows);
    }

    /** An edge that no run of 512 calls reaches: the sentence stands all the same, and the program keeps it. */
    void edgeBeyondAllRuns(int promise, String quote, String... blocks) {
        check(begin(promise, quote, blocks));
    }

    /** Prints what was found; answers whether all was as due. */
    boolean good() {
        for (String words : document.untested()) {
            title = "the document";
            complain("no edge quotes \"" + words + "\"");
        }
        System.out.println(edges + " edges, " + asked + " answers asked, " + wrong + " wrong");
        return wrong == 0;
    }

    private List<Row> begin(int promise, String quote, String... blocks) {
        edges++;
        title = "promise " + promise + ", \"" + quote + "\"";
        String fault = document.quote(promise, quote);
        if (!fault.isEmpty()) {
            complain(fault);
        }
        List<Row> rows = new ArrayList<>();
        for (String block : blocks) {
            block.lines().forEach(line -> read(line.strip(), rows));
        }
        return rows;
    }

    private void complain(String what) {
        wrong++;
        System.out.println(title + ": " + what);
    }

    // reading rows

    private static void read(String line, List<Row> rows) {
        if (line.isEmpty() || line.startsWith("#")) {
            return;
        }
        if (line.startsWith("bad ")) {
            String[] parts = line.split(" ", 4);
            addText(parts.length < 4 ? "" : signs(parts[3]), true, -1, rows);
            addCalls("fault", List.of("0"), true, number(parts[1]), rows);
            addCalls("fault", List.of("1"), true, number(parts[2]), rows);
            return;
        }
        int arrow = line.lastIndexOf("-> ");
        boolean asked = arrow >= 0;
        int due = asked ? number(line.substring(arrow + 3).strip()) : 0;
        String call = (asked ? line.substring(0, arrow) : line).strip();
        int times = 1;
        if (call.matches("[0-9]+\\* .*")) {
            times = number(call.substring(0, call.indexOf('*')));
            call = call.substring(call.indexOf('*') + 2);
        }
        for (int i = 0; i < times; i++) {
            if (call.equals("law") || call.startsWith("law ")) {
                addText(signs(call.substring(Math.min(4, call.length()))), asked, due, rows);
            } else {
                List<String> parts = Arrays.asList(call.split(" +"));
                addCalls(parts.get(0), parts.subList(1, parts.size()), asked, due, rows);
            }
        }
    }

    private static void addText(String text, boolean asked, int due, List<Row> rows) {
        for (int[] five : Texts.feeds(text)) {
            rows.add(new Row(Calls.numberOf("feed"), five, false, 0));
        }
        rows.add(new Row(Calls.numberOf("end"), new int[] {text.length()}, true, 1));
        rows.add(new Row(Calls.numberOf("text"), new int[0], asked, due));
    }

    private static void addCalls(String name, List<String> words, boolean asked, int due, List<Row> rows) {
        List<int[]> all = new ArrayList<>(List.of(new int[0]));
        for (String word : words) {
            List<int[]> longer = new ArrayList<>();
            for (int[] args : all) {
                for (int number : numbers(word)) {
                    int[] more = Arrays.copyOf(args, args.length + 1);
                    more[args.length] = number;
                    longer.add(more);
                }
            }
            all = longer;
        }
        int call = Calls.numberOf(name);
        for (int[] args : all) {
            if (args.length != Calls.COUNTS[call]) {
                throw new IllegalArgumentException(name + " with " + args.length + " numbers");
            }
            rows.add(new Row(call, args, asked, due));
        }
    }

    private static List<Integer> numbers(String word) {
        List<Integer> all = new ArrayList<>();
        if (word.startsWith("{")) {
            return List.of(number(word));
        }
        for (String part : word.split(",")) {
            int dots = part.indexOf("..");
            int first = number(dots < 0 ? part : part.substring(0, dots));
            int last = dots < 0 ? first : number(part.substring(dots + 2));
            for (int i = first; i < last; i++) {
                all.add(i);
            }
            all.add(last);
        }
        return all;
    }

    private static int number(String word) {
        switch (word) {
            case "NONE": return -1;
            case "MIN": return Integer.MIN_VALUE;
            case "MAX": return Integer.MAX_VALUE;
            case "true": return 1;
            case "false": return 0;
            case "{}": return 0;
            default: break;
        }
        if (word.startsWith("0x")) {
            return Integer.parseUnsignedInt(word.substring(2), 16);
        }
        if (!word.startsWith("{")) {
            return Integer.parseInt(word);
        }
        int set = 0;
        for (int member : numbers(word.substring(1, word.length() - 1))) {
            set |= 1 << member;
        }
        return set;
    }

    private static String signs(String text) {
        StringBuilder out = new StringBuilder();
        for (int i = 0; i < text.length(); i++) {
            if (text.startsWith("\\n", i)) {
                out.append('\n');
                i++;
            } else if (text.startsWith("\\x", i)) {
                out.append((char) Integer.parseInt(text.substring(i + 2, i + 4), 16));
                i += 3;
            } else {
                out.append(text.charAt(i));
            }
        }
        return out.toString();
    }

    // running them

    private void check(List<Row> rows) {
        TollOfNames x = new TollOfNames();
        for (int i = 0; i < rows.size(); i++) {
            Row row = rows.get(i);
            int got = Calls.onProgram(x, row.call(), row.args());
            if (row.asked()) {
                asked++;
                if (got != row.due()) {
                    complain(row.told() + " (call " + (i + 1) + ") answered " + got + ", due is " + row.due());
                }
            }
        }
        checkTraces(rows);
    }

    /** Rows of which nothing may stay are looked at by stretches; only a stretch that left something is looked into. */
    private void checkTraces(List<Row> rows) {
        int from = 0;
        while (from < rows.size()) {
            int to = from;
            while (to < rows.size() && rows.get(to).leavesNoTrace()) {
                to++;
            }
            if (to > from) {
                checkStretch(rows, from, to);
            }
            from = to + 1;
        }
    }

    private void checkStretch(List<Row> rows, int from, int to) {
        List<String> before = Views.of(calls(rows, from));
        if (before.equals(Views.of(calls(rows, to)))) {
            return;
        }
        for (int i = from + 1; i <= to; i++) {
            List<String> behind = Views.of(calls(rows, i));
            for (int j = 0; j < behind.size(); j++) {
                if (!behind.get(j).equals(before.get(j))) {
                    complain(rows.get(i - 1).told() + " (call " + i + ") left a trace: then " + behind.get(j)
                            + ", without it " + before.get(j));
                    return;
                }
            }
        }
    }

    private static List<int[]> calls(List<Row> rows, int count) {
        List<int[]> all = new ArrayList<>();
        for (Row row : rows.subList(0, count)) {
            all.add(Views.call(row.name(), row.args()));
        }
        return all;
    }
}
