import java.io.IOException;
import java.lang.reflect.Field;
import java.lang.reflect.Method;
import java.lang.reflect.Modifier;
import java.nio.file.Files;
import java.nio.file.Path;
import java.util.ArrayList;
import java.util.Arrays;
import java.util.List;
import java.util.TreeSet;
import java.util.regex.Matcher;
import java.util.regex.Pattern;

/** The face of the document, and those rules of LANGUAGE.md that can be looked up in the source. */
public final class LanguageTest {
    private static final String[] FACE = {
        "bear(int)", "bump(int,boolean)", "cut(int,int)", "drift(int)", "eater(int,int)", "fault()", "feed(int)",
        "goBack(int)", "halves(int,int)", "hour(int)", "judge()", "keep(int)", "kitchen()", "mild(int,int)",
        "order(int,int)", "putOn(int)", "rest()", "seed(int)", "soft(int,int)", "takeOff(int)", "tear()",
        "toWrap(int,int)", "told(int)", "trouble(int,int)", "undo()", "when(int)", "wrap(int)", "write(int,int)"};
    private static final String[] RULED_OUT = {
        "throw", "throws", "try", "catch", "synchronized", "assert", "import", "package", "double", "float", "volatile",
        "Thread", "Random", "Exception", "Object", "equals", "hashCode", "toString", "protected", "goto", "native"};

    public static void main(String[] args) throws IOException {
        face();
        constants();
        classesInside();
        String source = Files.readString(Path.of("src/main/java/SuetTroubles.java"));
        String code = source.replaceAll("(?s)/\\*.*?\\*/", " ").replaceAll("//[^\n]*", "").replaceAll("'.'", "' '");
        words(code);
        methods(code);
        Check.end();
    }

    private static void face() {
        TreeSet<String> found = new TreeSet<>();
        for (Method m : SuetTroubles.class.getDeclaredMethods()) {
            if (Modifier.isPublic(m.getModifiers())) {
                String parameters = String.join(",", Arrays.stream(m.getParameterTypes()).map(Class::getName).toList());
                found.add(m.getName() + "(" + parameters + ")");
                Check.holds(m + " answers an int", m.getReturnType() == int.class);
                Check.holds(m + " is no static one", !Modifier.isStatic(m.getModifiers()));
            } else {
                Check.holds(m + " is private", Modifier.isPrivate(m.getModifiers()) || m.isSynthetic());
            }
        }
        Check.holds("the face is " + found, found.equals(new TreeSet<>(Arrays.asList(FACE))));
        Check.holds("one constructor", SuetTroubles.class.getDeclaredConstructors().length == 1);
        Check.holds("it is public", SuetTroubles.class.getConstructors().length == 1);
        Check.holds("public and final", SuetTroubles.class.getModifiers() == (Modifier.PUBLIC | Modifier.FINAL));
    }

    private static void constants() {
        Check.due("NONE", SuetTroubles.NONE, -1);
        Check.due("UNKNOWN", SuetTroubles.UNKNOWN, -1000000001);
        Check.due("OUTSIDE", SuetTroubles.OUTSIDE, -1000000002);
        Check.due("NOT", SuetTroubles.NOT, -1000000003);
        Check.due("FULL", SuetTroubles.FULL, -1000000004);
        Check.due("public fields", SuetTroubles.class.getFields().length, 5);
    }

    private static void classesInside() {
        Class<?>[] inside = SuetTroubles.class.getDeclaredClasses();
        Check.holds("twelve classes at most", inside.length + 1 <= 12);
        List<Class<?>> all = new ArrayList<>(Arrays.asList(inside));
        all.add(SuetTroubles.class);
        for (Class<?> c : all) {
            int fields = 0;
            for (Field f : c.getDeclaredFields()) {
                boolean isStatic = Modifier.isStatic(f.getModifiers());
                fields += isStatic ? 0 : 1;
                Check.holds(f + " is final if static", !isStatic || Modifier.isFinal(f.getModifiers()));
                Check.holds(f + " is private", c != SuetTroubles.class || isStatic || Modifier.isPrivate(f.getModifiers()));
            }
            Check.holds(c + " has twenty fields at most", fields <= 20);
            for (Method m : c.getDeclaredMethods()) {
                Check.holds(m + " has seven parameters at most", m.getParameterCount() <= 7);
            }
        }
        for (Class<?> c : inside) {
            Check.holds(c + " is static", Modifier.isStatic(c.getModifiers()));
            Check.holds(c + " is not public", !Modifier.isPublic(c.getModifiers()) && !Modifier.isProtected(c.getModifiers()));
            for (Method m : c.getDeclaredMethods()) {
                Check.holds(m + " bears no name of the face", Arrays.stream(FACE).noneMatch(f -> f.startsWith(m.getName() + "(")));
            }
        }
    }

    private static void words(String code) {
        for (String word : RULED_OUT) {
            Check.holds("without the word " + word, !Pattern.compile("\\b" + word + "\\b").matcher(code).find());
        }
        Check.holds("without arrows and references", !code.contains("->") && !code.contains("::"));
        Check.holds("without texts", code.indexOf('"') < 0);
        Check.holds("without Exact", !code.contains("Exact"));
        Matcher library = Pattern.compile("\\b(Math|Integer|System|Long|Arrays)\\.(\\w+)").matcher(code);
        List<String> listed = List.of("Math.max", "Math.min", "Integer.bitCount", "System.arraycopy");
        while (library.find()) {
            Check.holds("the library lists " + library.group(), listed.contains(library.group()));
        }
    }

    /** A method or constructor of the source: its head, its name, what it answers (null: a constructor), its lines. */
    private record Found(String head, String name, String type, String body, int lines) {
        boolean calls(String other) {
            return Pattern.compile("(?<!new )\\b" + other + "\\(").matcher(body).find();
        }
    }

    private static List<Found> find(String code) {
        Pattern head = Pattern.compile("^ +(?:public |private |static |final )*(?:(int|boolean|void|long|int\\[\\]) )?(\\w+)\\([^)]*\\) \\{$");
        String[] lines = code.split("\n", -1);
        List<Found> all = new ArrayList<>();
        for (int k = 0; k < lines.length; k++) {
            Matcher m = head.matcher(lines[k]);
            if (!m.find() || List.of("if", "for", "while", "switch").contains(m.group(2))) {
                continue;
            }
            String indent = lines[k].substring(0, lines[k].length() - lines[k].stripLeading().length());
            int end = k;
            while (end < lines.length - 1 && !lines[end].equals(indent + "}")) {
                end++;
            }
            String body = String.join("\n", Arrays.asList(lines).subList(k + 1, end));
            all.add(new Found(lines[k].strip(), m.group(2), m.group(1), body, end - k));
        }
        return all;
    }

    /** Methods are short, and nothing is made but by constructors and fields, which hand out nothing. */
    private static void methods(String code) {
        List<Found> all = find(code);
        Check.holds("all methods were found: " + all.size(), all.size() > 100);
        for (Found f : all) {
            Check.holds(f.name + " has sixty lines at most", f.lines <= 60);
            Check.holds(f.name + " makes nothing", f.type == null || !f.body.contains("new "));
            Check.holds(f.name + " goes at most eight deep", f.type == null || depth(f, all, 0) <= 8);
            if (f.calls(f.name)) {
                Check.holds(f.name + " calls itself: private, static", f.head.startsWith("private static "));
                Check.holds(f.name + " calls itself: by a depth", f.head.endsWith("int depth) {") && f.body.contains("depth >= "));
            }
        }
        Matcher made = Pattern.compile("new \\w+\\([^)]").matcher(code);
        Check.holds("a constructor hands out nothing", !made.find());
        Check.holds("every loop tells its end", !Pattern.compile("while \\(true|for \\([^;]*; *;").matcher(code).find());
    }

    /** Methods of one name are taken as one, so this is what the source goes deep, or more. */
    private static int depth(Found f, List<Found> all, int above) {
        int most = 0;
        for (Found other : all) {
            if (other.type != null && !other.name.equals(f.name) && f.calls(other.name) && above < 20) {
                most = Math.max(most, depth(other, all, above + 1));
            }
        }
        return most + 1;
    }
}
