import java.io.IOException;
import java.lang.reflect.Method;
import java.nio.file.Files;
import java.nio.file.Path;
import java.util.regex.Matcher;
import java.util.regex.Pattern;

/** README.md shows calls with their answers: they are made here just as they stand there. */
public final class ReadmeTest {
    private static final Check CHECK = new Check();
    private static final Pattern TEXT = Pattern.compile("String text = \"([^\"]*)\";");
    private static final Pattern CALL = Pattern.compile("(?m)^x\\.(\\w+)\\(([-\\d, ]*)\\);\\s*// (-?\\d+):");

    public static void main(String[] args) throws IOException, ReflectiveOperationException {
        CHECK.part("README.md");
        String page = Files.readString(root().resolve("README.md"));
        HarbourLights x = new HarbourLights();
        Matcher text = TEXT.matcher(page);
        CHECK.holds("a text is shown", text.find());
        OfficeCheck.spell(x, text.group(1));
        Matcher call = CALL.matcher(page);
        int shown = 0;
        while (call.find()) {
            String line = call.group(1) + "(" + call.group(2) + ")";
            CHECK.due(line, answer(x, call.group(1), call.group(2)), Integer.parseInt(call.group(3)));
            shown++;
        }
        CHECK.due("calls that could be read, of all lines that show one", shown, (int) page.lines().filter(l -> l.startsWith("x.")).count());
        CHECK.holds("calls are shown", shown > 0);
        CHECK.end();
    }

    private static Path root() {
        Path program = Path.of(System.getProperty("program", "src/main/java/HarbourLights.java")).toAbsolutePath();
        return program.getParent().getParent().getParent().getParent();
    }

    private static int answer(HarbourLights x, String name, String list) throws ReflectiveOperationException {
        String[] parts = list.isEmpty() ? new String[0] : list.split(", ");
        Class<?>[] types = new Class<?>[parts.length];
        Object[] values = new Object[parts.length];
        for (int i = 0; i < parts.length; i++) {
            types[i] = int.class;
            values[i] = Integer.valueOf(parts[i]);
        }
        Method method = HarbourLights.class.getMethod(name, types);
        return (Integer) method.invoke(x, values);
    }
}
