import java.io.IOException;
import java.lang.reflect.Constructor;
import java.lang.reflect.Field;
import java.lang.reflect.Method;
import java.lang.reflect.Modifier;
import java.nio.file.Files;
import java.nio.file.Path;
import java.util.Arrays;
import java.util.Set;
import java.util.TreeSet;
import java.util.regex.Matcher;
import java.util.regex.Pattern;

/** The face of the class, and those rules of LANGUAGE.md that can be seen from outside or by words. */
public final class LanguageTest {
    private static final Check CHECK = new Check();
    private static final String[] FACE = {
        "write(int)", "erase()", "fault()", "office()", "rhythm(int, int)", "light(int, int)", "like(int, int, int)",
        "lit(int, int)", "dark(int)", "move(int, int)", "undo()", "keep(int)", "back(int)", "plan(int, int)", "most(int)",
        "apart(int, int)", "machine(int, int)", "watch(int, int)", "see(int)", "left(int, int)", "tape(int)",
        "put(int, int, int)", "draw(int, int)", "turn(int, int)", "find(int, int, int)", "strike(int, int)",
        "load(int, int, int)", "drop(int)", "count(int)"};
    private static final String[] NOT_TO_BE_USED = {
        "throw", "throws", "try", "catch", "synchronized", "assert", "import", "package", "volatile", "transient", "native",
        "protected", "Object", "hashCode", "toString", "System.out", "System.currentTimeMillis", "System.nanoTime", "Thread",
        "Random", "Exact", "instanceof", "enum", "record"};

    public static void main(String[] args) throws IOException {
        face();
        constants();
        insideClasses();
        String source = Files.readString(sourcePath());
        words(withoutCommentsAndTexts(source));
        lengths(source);
        rowsMadeOnce(withoutCommentsAndTexts(source));
        CHECK.end();
    }

    /** The tests may be started in the project's root or elsewhere: then a property tells the file. */
    private static Path sourcePath() {
        return Path.of(System.getProperty("program", "src/main/java/HarbourLights.java"));
    }

    private static void face() {
        CHECK.part("rule 1, the face");
        int modifiers = HarbourLights.class.getModifiers();
        CHECK.holds("public and final", Modifier.isPublic(modifiers) && Modifier.isFinal(modifiers));
        Set<String> open = new TreeSet<>();
        Set<String> hidden = new TreeSet<>();
        for (Method m : HarbourLights.class.getDeclaredMethods()) {
            String types = Arrays.toString(m.getParameterTypes()).replace("[", "(").replace("]", ")");
            if (Modifier.isPrivate(m.getModifiers())) {
                hidden.add(m.getName());
            } else if (!m.isSynthetic()) {
                open.add(m.getName() + types);
                CHECK.holds(m.getName() + " is public, no static one, and answers an int",
                    Modifier.isPublic(m.getModifiers()) && !Modifier.isStatic(m.getModifiers()) && m.getReturnType() == int.class);
            }
        }
        CHECK.holds("the methods of the document and no more: " + open, open.equals(new TreeSet<>(Arrays.asList(FACE))));
        for (String method : FACE) {
            String name = method.substring(0, method.indexOf('('));
            CHECK.holds("no private method is named " + name, !hidden.contains(name));
        }
        Constructor<?>[] makers = HarbourLights.class.getDeclaredConstructors();
        CHECK.holds("one public constructor", makers.length == 1 && Modifier.isPublic(makers[0].getModifiers()));
        CHECK.holds("without parameters", makers.length == 1 && makers[0].getParameterCount() == 0);
    }

    private static void constants() {
        CHECK.part("rule 1, the constants");
        int[] want = {-1, -2, -3, -4, -5, -11, -12, -13};
        int[] got = {HarbourLights.NONE, HarbourLights.UNKNOWN, HarbourLights.OUTSIDE, HarbourLights.NOT, HarbourLights.FULL,
            HarbourLights.NULL, HarbourLights.EMPTY, HarbourLights.ROOM};
        int open = 0;
        for (int i = 0; i < want.length; i++) {
            CHECK.due("constant " + i, got[i], want[i]);
        }
        for (Field f : HarbourLights.class.getDeclaredFields()) {
            if (!Modifier.isPrivate(f.getModifiers())) {
                open++;
            }
            if (Modifier.isStatic(f.getModifiers())) {
                CHECK.holds(f.getName() + " is final", Modifier.isFinal(f.getModifiers()));
            }
        }
        CHECK.due("constants that can be seen", open, want.length);
    }

    private static void insideClasses() {
        CHECK.part("rules 1, 2 and 11, the classes inside");
        Class<?>[] inside = HarbourLights.class.getDeclaredClasses();
        CHECK.holds("some twelve classes at most", inside.length < 12);
        for (Class<?> c : inside) {
            int modifiers = c.getModifiers();
            CHECK.holds(c.getName() + " is static", Modifier.isStatic(modifiers));
            CHECK.holds(c.getName() + " is not public", !Modifier.isPublic(modifiers) && !Modifier.isProtected(modifiers));
            CHECK.holds(c.getName() + " has twenty fields at most", c.getDeclaredFields().length <= 20);
            for (Method m : c.getDeclaredMethods()) {
                boolean taken = Arrays.stream(FACE).anyMatch(f -> f.startsWith(m.getName() + "("));
                CHECK.holds(c.getName() + "." + m.getName() + " is not a name of the face", !taken);
                CHECK.holds(m.getName() + " has seven parameters at most", m.getParameterCount() <= 7);
            }
            for (Field f : c.getDeclaredFields()) {
                CHECK.holds(f.getName() + ", if static, is final",
                    !Modifier.isStatic(f.getModifiers()) || Modifier.isFinal(f.getModifiers()));
            }
        }
    }

    private static String withoutCommentsAndTexts(String source) {
        return source.replaceAll("(?s)/\\*.*?\\*/", " ").replaceAll("//[^\n]*", " ").replaceAll("\"[^\"\n]*\"", "TEXT");
    }

    private static void words(String code) {
        CHECK.part("rules 4 and 6, words");
        for (String word : NOT_TO_BE_USED) {
            boolean used = Pattern.compile("\\b" + Pattern.quote(word) + "\\b").matcher(code).find();
            CHECK.holds("'" + word + "' is not used", !used);
        }
        CHECK.holds("no lambda, no method reference", !code.contains("->") && !code.contains("::"));
        CHECK.holds("no text joined by +", !code.contains("TEXT +") && !code.contains("+ TEXT"));
        Matcher call = Pattern.compile("\\b([A-Z][A-Za-z]*)\\.([a-z][A-Za-z]*)\\(").matcher(code);
        Set<String> allowed = Set.of("Integer.bitCount", "Long.bitCount", "Math.abs", "Math.max", "Math.min", "System.arraycopy");
        while (call.find()) {
            String name = call.group(1) + "." + call.group(2);
            CHECK.holds(name + " is of the library that is listed", allowed.contains(name));
        }
    }

    /** All calls of a run live in one room: only fields and the constructor make objects and rows. */
    private static void rowsMadeOnce(String code) {
        CHECK.part("rule 12, no call makes an object");
        int begin = code.indexOf("public HarbourLights() {");
        int end = code.indexOf("\n    }", Math.max(begin, 0));
        CHECK.holds("the constructor is found", begin > 0 && end > begin);
        String rest = code.substring(0, Math.max(begin, 0)) + code.substring(Math.max(end, 0));
        rest.lines().filter(line -> line.matches(".*\\bnew\\b.*")).forEach(line ->
            CHECK.holds("a field that is made with its object:" + line, line.matches(" +(private )?final [\\w\\[\\]]+ \\w+ = new .*;")));
        CHECK.holds("no copies are made", !code.matches("(?s).*\\b(clone|copyOf|copyOfRange|StringBuilder|substring|toCharArray)\\b.*"));
    }

    /** A method ends where its closing brace stands as far in as its first line. */
    private static void lengths(String source) {
        CHECK.part("rule 11, short methods");
        Matcher method = Pattern.compile("(?m)^( +)[\\w ,\\[\\]]+\\([^;()]*\\) \\{\n").matcher(source);
        int found = 0;
        while (method.find()) {
            int end = source.indexOf("\n" + method.group(1) + "}", method.end() - 1);
            long lines = source.substring(method.start(), Math.max(end, method.start())).lines().count();
            CHECK.holds(method.group().trim() + " has " + lines + " lines", end > 0 && lines <= 60);
            found++;
        }
        CHECK.holds("methods are found: " + found, found > FACE.length);
    }
}
