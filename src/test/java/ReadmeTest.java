import java.lang.reflect.Method;
import java.lang.reflect.Modifier;
import java.nio.charset.StandardCharsets;
import java.nio.file.Files;
import java.nio.file.Path;
import java.util.ArrayList;
import java.util.List;
import java.util.Set;
import java.util.TreeSet;
import java.util.regex.Matcher;
import java.util.regex.Pattern;

/** What README.md tells of the use: its calls, in their order on one object, answer what stands behind them. */
public final class ReadmeTest {
    private static final Pattern FENCE = Pattern.compile("(?ms)^```(java|text)\\n(.*?)^```$");
    private static final Pattern CALL = Pattern.compile("tower\\.(\\w+)\\(([^)]*)\\); +// (\\S+)");

    private final Desk desk = new Desk("ReadmeTest");
    private final GuestTower tower = new GuestTower();
    private final Set<String> called = new TreeSet<>();
    private final List<Long> fed = new ArrayList<>();

    public static void main(String[] args) throws Exception {
        new ReadmeTest().all(Files.readString(Path.of("README.md")));
    }

    private void all(String readme) throws Exception {
        String program = "";
        Matcher fences = FENCE.matcher(readme);
        while (fences.find()) {
            String inside = fences.group(2);
            if (fences.group(1).equals("text")) {
                program = inside.stripTrailing();
            } else if (inside.startsWith("static ")) {
                desk.due("Desk has the cutting", true, moved("src/test/java/Desk.java").contains(inside.stripTrailing()));
            } else {
                calls(inside);
            }
        }
        desk.due("the fed bytes are the program " + program, true, tape().startsWith(program));
        for (Method method : GuestTower.class.getDeclaredMethods()) {
            if (Modifier.isPublic(method.getModifiers())) {
                desk.due("README.md calls " + method.getName(), true, called.contains(method.getName()));
            }
        }
        desk.end();
    }

    /** A file with its lines moved to the left, as README.md shows what is inside a class. */
    private static String moved(String file) throws Exception {
        return Files.readString(Path.of(file)).replaceAll("(?m)^ {4}", "");
    }

    private void calls(String lines) throws Exception {
        for (String line : lines.split("\n")) {
            Matcher call = CALL.matcher(line);
            if (call.matches()) {
                ask(line, call.group(1), call.group(2).split(", "), call.group(3));
            } else {
                desk.due("README.md has the line " + line, true, line.equals("GuestTower tower = new GuestTower();"));
            }
        }
    }

    private void ask(String line, String name, String[] numbers, String want) throws Exception {
        called.add(name);
        Object[] values = new Object[numbers.length];
        Class<?>[] kinds = new Class<?>[numbers.length];
        for (int i = 0; i < numbers.length; i++) {
            long number = Long.decode(numbers[i]);
            values[i] = (int) number;
            kinds[i] = int.class;
            if (name.equals("feed")) {
                fed.add(number);
            }
        }
        String got = String.valueOf(GuestTower.class.getMethod(name, kinds).invoke(tower, values));
        desk.due("README.md: " + line + " but " + got + " is answered:", true, got.equals(want));
    }

    private String tape() {
        byte[] bytes = new byte[4 * fed.size()];
        for (int i = 0; i < bytes.length; i++) {
            bytes[i] = (byte) (fed.get(i / 4) >> 24 - 8 * (i % 4));
        }
        return new String(bytes, StandardCharsets.ISO_8859_1);
    }
}
