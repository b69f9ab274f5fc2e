import java.io.IOException;
import java.io.PrintWriter;
import java.io.StringWriter;
import java.nio.file.Files;
import java.nio.file.Path;
import java.util.ArrayList;
import java.util.LinkedHashMap;
import java.util.List;
import java.util.Map;
import java.util.Set;
import java.util.TreeMap;
import java.util.TreeSet;
import java.util.regex.Matcher;
import java.util.regex.Pattern;
import java.util.spi.ToolProvider;
import java.util.stream.Stream;

/** What of LANGUAGE.md can be seen in the compiled class: what it calls and makes, and how deep its calls go. */
public final class BytecodeTest {
    private static final int DEEPEST = 8;
    private static final Pattern CLASS = Pattern.compile("^(?:\\w+ )*class ([\\w$]+).*\\{$");
    private static final Pattern HEAD = Pattern.compile("^  (?:[\\w$.\\[\\]]+ )*([\\w$]+)\\(.*\\);$");
    private static final Pattern INVOKED = Pattern.compile("invoke\\w+ .*// Method ([\\w$/.\"<>]+):");
    /** Rule 4, as far as the class needs it. */
    private static final Set<String> LIBRARY = Set.of("java/lang/Object.<init>", "java/lang/String.length",
            "java/lang/String.charAt", "java/lang/String.indexOf", "java/lang/Integer.bitCount", "java/lang/Math.min",
            "java/lang/Math.max", "java/lang/System.arraycopy", "java/util/Arrays.fill");
    /** Rules 2 and 6: nothing thrown, caught, locked or made by the machine at run time. */
    private static final Pattern BANNED = Pattern.compile(": (athrow|monitorenter|invokedynamic)\\b|Exception table:");
    private static final Pattern MADE = Pattern.compile(": (new|newarray|anewarray|multianewarray)\\b");

    private static final Map<String, Set<String>> CALLED = new LinkedHashMap<>();
    private static final Set<String> PRIVATE = new TreeSet<>();
    private static int wrong = 0;

    private BytecodeTest() { }

    public static void main(String[] args) throws IOException {
        read(listing());
        need(CALLED.size() > 29, "only " + CALLED.size() + " methods were found");
        recursion();
        depths();
        System.out.println(CALLED.size() + " methods, " + wrong + " breaches of the language");
        if (wrong != 0) {
            System.exit(1);
        }
    }

    private static void need(boolean good, String otherwise) {
        if (!good) {
            wrong++;
            System.out.println(otherwise);
        }
    }

    /** What javap tells of the class and of those inside it. */
    private static List<String> listing() throws IOException {
        List<String> args = new ArrayList<>(List.of("-c", "-p"));
        Path classes = Path.of(System.getProperty("java.class.path"));
        try (Stream<Path> files = Files.list(classes)) {
            files.filter(f -> f.getFileName().toString().matches("TollOfNames(\\$.*)?\\.class")).sorted()
                    .forEach(f -> args.add(f.toString()));
        }
        StringWriter out = new StringWriter();
        PrintWriter to = new PrintWriter(out);
        ToolProvider javap = ToolProvider.findFirst("javap").orElseThrow();
        need(javap.run(to, to, args.toArray(new String[0])) == 0, "javap can't read the classes");
        return out.toString().lines().toList();
    }

    private static void read(List<String> lines) {
        String owner = "";
        String method = "";
        for (String line : lines) {
            Matcher type = CLASS.matcher(line);
            Matcher head = HEAD.matcher(line);
            if (type.matches()) {
                owner = type.group(1);
            } else if (head.matches()) {
                method = owner + "." + (head.group(1).equals(owner) ? "<init>" : head.group(1));
                need(CALLED.put(method, new TreeSet<>()) == null, "two methods are called " + method);
                if (line.startsWith("  private ")) {
                    PRIVATE.add(method);
                }
            } else {
                readCode(owner, method, line);
            }
        }
    }

    private static void readCode(String owner, String method, String line) {
        need(!BANNED.matcher(line).find(), method + ": " + line.strip());
        need(method.endsWith(".<init>") || !MADE.matcher(line).find(), method + " makes something: " + line.strip());
        Matcher invoked = INVOKED.matcher(line);
        if (!invoked.find()) {
            need(!line.contains(": invoke"), method + " calls what can't be told: " + line.strip());
            return;
        }
        String called = invoked.group(1).replace("\"", "");
        if (called.startsWith("java/")) {
            need(LIBRARY.contains(called), method + " calls " + called);
        } else {
            CALLED.get(method).add(called.contains(".") ? called : owner + "." + called);
        }
    }

    private static Set<String> reached(String from) {
        Set<String> all = new TreeSet<>();
        List<String> open = new ArrayList<>(CALLED.getOrDefault(from, Set.of()));
        while (!open.isEmpty()) {
            String method = open.remove(open.size() - 1);
            if (all.add(method)) {
                open.addAll(CALLED.getOrDefault(method, Set.of()));
            }
        }
        return all;
    }

    /** Rule 8: what calls itself, by itself or by others, is private. */
    private static void recursion() {
        for (String method : CALLED.keySet()) {
            need(!reached(method).contains(method) || PRIVATE.contains(method), method + " calls itself, but is not private");
        }
    }

    /** Rule 11: methods that call one another count once each, however often they do. */
    private static void depths() {
        Map<String, Integer> known = new TreeMap<>();
        for (String method : CALLED.keySet()) {
            int depth = depth(method, known);
            need(depth <= DEEPEST, "calls from " + method + " go " + depth + " deep");
        }
    }

    private static int depth(String method, Map<String, Integer> known) {
        if (known.containsKey(method)) {
            return known.get(method);
        }
        Set<String> circle = new TreeSet<>(Set.of(method));
        for (String other : reached(method)) {
            if (reached(other).contains(method)) {
                circle.add(other);
            }
        }
        int below = 0;
        for (String member : circle) {
            for (String called : CALLED.getOrDefault(member, Set.of())) {
                below = circle.contains(called) ? below : Math.max(below, depth(called, known));
            }
        }
        known.put(method, below + circle.size());
        return below + circle.size();
    }
}
