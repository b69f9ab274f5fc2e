import java.io.IOException;
import java.lang.reflect.Field;
import java.lang.reflect.Method;
import java.lang.reflect.Modifier;
import java.nio.file.Files;
import java.nio.file.Path;
import java.util.ArrayList;
import java.util.Arrays;
import java.util.List;
import java.util.TreeSet;
import java.util.regex.Matcher;
import java.util.regex.Pattern;

/** What of LANGUAGE.md can be seen from the source and the classes: the face, the words, the sizes. */
public final class LanguageTest {
    private static final Path SOURCE = Path.of("src/main/java/TollOfNames.java");
    private static final int CALLS = 29;
    private static final String[] BANNED = {"\\bthrow\\b", "\\btry\\b", "\\bcatch\\b", "\\bsynchronized\\b",
        "\\bassert\\b", "->", "::", "\\bstatic\\s*\\{", "Exact\\s*\\(", "\\bfloat\\b", "\\bdouble\\b", "\\bString\\s*\\[",
        "\\bSystem\\.(?!arraycopy\\b)", "\\bMath\\.(?!min\\b|max\\b|abs\\b|floorDiv\\b|floorMod\\b)",
        "\\bInteger\\.(?!bitCount\\b|compare\\b|max\\b|min\\b)", "\\bprotected\\b", "\\bpackage\\b", "\\bhashCode\\b"};
    private static final TreeSet<String> IMPORTS =
            new TreeSet<>(List.of("java.util.Arrays", "java.util.ArrayList", "java.util.List", "java.util.Iterator"));
    private static int wrong = 0;

    private LanguageTest() { }

    public static void main(String[] args) throws IOException {
        String source = Files.readString(SOURCE);
        face();
        classes();
        words(source);
        lengths(source);
        System.out.println(wrong == 0 ? "the language is kept to" : wrong + " breaches of the language");
        if (wrong != 0) {
            System.exit(1);
        }
    }

    private static void need(boolean good, String otherwise) {
        if (!good) {
            wrong++;
            System.out.println(otherwise);
        }
    }

    private static String signature(Method m) {
        List<String> types = Arrays.stream(m.getParameterTypes()).map(Class::getSimpleName).toList();
        return m.getReturnType().getSimpleName() + " " + m.getName() + "(" + String.join(",", types) + ")";
    }

    private static void face() {
        Class<?> face = TollOfNames.class;
        need(face.getModifiers() == (Modifier.PUBLIC | Modifier.FINAL), "the class is not public and final alone");
        TreeSet<String> found = new TreeSet<>();
        for (Method m : face.getDeclaredMethods()) {
            boolean open = Modifier.isPublic(m.getModifiers());
            need(open || Modifier.isPrivate(m.getModifiers()), m + " is neither public nor private");
            if (open) {
                need(!Modifier.isStatic(m.getModifiers()), m + " is static");
                found.add(signature(m));
            }
        }
        TreeSet<String> told = new TreeSet<>(Document.face());
        need(told.size() == CALLS, "the document's face was read as " + told);
        need(found.equals(told), "the face is " + found + ", the document's " + told);
        for (Field f : face.getDeclaredFields()) {
            boolean constant = f.getName().equals("NONE");
            int want = constant ? Modifier.PUBLIC | Modifier.STATIC | Modifier.FINAL : Modifier.PRIVATE;
            need((f.getModifiers() & want) == want, f + " is not as it must be");
        }
        need(face.getDeclaredConstructors().length == 1, "more than one constructor");
        need(face.getDeclaredConstructors()[0].getParameterCount() == 0, "the constructor takes something");
    }

    private static void classes() {
        TreeSet<String> open = new TreeSet<>();
        for (Method m : TollOfNames.class.getMethods()) {
            open.add(m.getName());
        }
        List<Class<?>> all = new ArrayList<>(List.of(TollOfNames.class));
        all.addAll(Arrays.asList(TollOfNames.class.getDeclaredClasses()));
        need(all.size() <= 12, all.size() + " classes");
        for (Class<?> c : all) {
            boolean inside = c != TollOfNames.class;
            int modifiers = c.getModifiers();
            need(!inside || Modifier.isStatic(modifiers), c + " is not static");
            need(!inside || !Modifier.isPublic(modifiers) && !Modifier.isProtected(modifiers), c + " is open");
            int fields = 0;
            for (Field f : c.getDeclaredFields()) {
                boolean fixed = Modifier.isStatic(f.getModifiers());
                need(!fixed || Modifier.isFinal(f.getModifiers()), f + " is static but not final");
                fields += fixed ? 0 : 1;
            }
            need(fields <= 20, c + " has " + fields + " fields");
            for (Method m : c.getDeclaredMethods()) {
                need(m.getParameterCount() <= 7, m + " takes more than seven");
                need(!inside || !open.contains(m.getName()), m + " bears the name of a public one");
                need(!Modifier.isPrivate(m.getModifiers()) || !open.contains(m.getName()), m + " is private and public");
            }
        }
    }

    private static String withoutTexts(String source) {
        String noComments = Pattern.compile("/\\*.*?\\*/", Pattern.DOTALL).matcher(source).replaceAll(" ");
        return noComments.replaceAll("'([^'\\\\]|\\\\.)'", "' '").replaceAll("\"([^\"\\\\]|\\\\.)*\"", "\" \"")
                .replaceAll("//[^\n]*", " ");
    }

    private static void words(String source) {
        for (int i = 0; i < source.length(); i++) {
            char sign = source.charAt(i);
            need(sign < 127 && (sign >= 32 || sign == '\n'), "sign " + (int) sign + " at " + i);
        }
        String code = withoutTexts(source);
        for (String word : BANNED) {
            Matcher m = Pattern.compile(word).matcher(code);
            if (m.find()) {
                need(false, "'" + m.group() + "' at: " + code.substring(m.start(), Math.min(code.length(), m.start() + 40)));
            }
        }
        Matcher imports = Pattern.compile("(?m)^import\\s+([^;]*);").matcher(code);
        while (imports.find()) {
            need(IMPORTS.contains(imports.group(1)), "import of " + imports.group(1));
        }
    }

    /** A method begins at a line that ends in ") {" four or eight blanks in, and ends at the brace below it. */
    private static void lengths(String source) {
        String[] lines = source.split("\n");
        for (int i = 0; i < lines.length; i++) {
            need(lines[i].length() <= 120, "line " + (i + 1) + " is long");
            Matcher head = Pattern.compile("^( {4}| {8})[a-zA-Z].*\\) \\{$").matcher(lines[i]);
            if (!head.matches()) {
                continue;
            }
            int end = i;
            while (end < lines.length && !lines[end].equals(head.group(1) + "}")) {
                end++;
            }
            need(end - i < 60, "a method of " + (end - i + 1) + " lines at line " + (i + 1));
        }
    }
}
