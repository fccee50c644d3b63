import java.lang.reflect.Field;
import java.lang.reflect.Method;
import java.lang.reflect.Modifier;
import java.nio.file.Files;
import java.nio.file.Path;
import java.util.List;
import java.util.Set;
import java.util.TreeSet;

/** The public face of the document, and those rules of ../shared/LANGUAGE.md that are easily tested. */
public final class LanguageTest {
    private static final Set<String> FACE = new TreeSet<>(Set.of(
        "int feed(int,int,int,int,int)", "int load(int,int,int,int)", "int fault(int)", "int run(int,int)", "boolean type(int,int)",
        "int look(int,int)", "int word(int,int)", "int output(int,int)", "int disk(int,int,int)"));

    public static void main(String[] args) throws Exception {
        Desk desk = new Desk("LanguageTest");
        face(desk);
        for (Class<?> inside : GuestTower.class.getDeclaredClasses()) {
            desk.due(inside + " is static", true, Modifier.isStatic(inside.getModifiers()));
            methods(desk, inside);
            fields(desk, inside);
        }
        desk.due("rule 11: classes", true, GuestTower.class.getDeclaredClasses().length < 12);
        source(desk, Files.readString(Path.of("src/main/java/GuestTower.java")));
        lengths(desk, Files.readAllLines(Path.of("src/main/java/GuestTower.java")));
        countOfSentBytes(desk);
        desk.end();
    }

    private static void face(Desk desk) {
        Set<String> found = new TreeSet<>();
        for (Method method : GuestTower.class.getDeclaredMethods()) {
            if (!Modifier.isPrivate(method.getModifiers())) {
                desk.due(method + " is public", true, Modifier.isPublic(method.getModifiers()));
                String text = method.toString().replaceFirst("public ", "").replaceFirst("GuestTower\\.", "");
                found.add(text);
            }
        }
        desk.due("the face is " + found, true, found.equals(FACE));
        desk.due("public and final", true, GuestTower.class.getModifiers() == (Modifier.PUBLIC | Modifier.FINAL));
        desk.due("constructors", 1, GuestTower.class.getDeclaredConstructors().length);
        desk.due("public constructors", 1, GuestTower.class.getConstructors().length);
        methods(desk, GuestTower.class);
        fields(desk, GuestTower.class);
        for (Field field : GuestTower.class.getDeclaredFields()) {
            desk.due(field + " is private", !field.getName().equals("NONE"), Modifier.isPrivate(field.getModifiers()));
        }
    }

    private static void methods(Desk desk, Class<?> of) {
        for (Method method : of.getDeclaredMethods()) {
            desk.due(method + " has few parameters", true, method.getParameterCount() <= 7);
            boolean bearsName = FACE.stream().anyMatch(f -> f.contains(" " + method.getName() + "("));
            desk.due(method + " bears a name of the face", of == GuestTower.class && Modifier.isPublic(method.getModifiers()), bearsName);
        }
    }

    private static void fields(Desk desk, Class<?> of) {
        int own = 0;
        for (Field field : of.getDeclaredFields()) {
            if (Modifier.isStatic(field.getModifiers())) {
                desk.due(field + " is final", true, Modifier.isFinal(field.getModifiers()));
            } else {
                own++;
            }
        }
        desk.due(of + " has few fields", true, own <= 20);
    }

    private static void source(Desk desk, String source) {
        String code = source.replaceAll("(?s)/\\*.*?\\*/", "").replaceAll("//.*", "");
        for (String word : new String[] {"throw", "throws", "try", "catch", "finally", "synchronized", "assert", "package", "volatile"}) {
            desk.due("the word " + word, false, code.matches("(?s).*\\b" + word + "\\b.*"));
        }
        desk.due("lambdas", false, code.contains("->") || code.contains("::"));
        desk.due("imports", true, code.replace("import java.util.Arrays;", "").indexOf("import") < 0);
        desk.due("bytes", true, source.matches("(?s)[\\n -~]*"));
    }

    /** Rule 11, "Methods stay short (some sixty lines)": from a head to the brace that stands below it. */
    private static void lengths(Desk desk, List<String> lines) {
        for (int i = 0; i < lines.size(); i++) {
            String head = lines.get(i);
            if (head.endsWith(") {") && head.matches(" {4}(?: {4})?\\w.*") && !head.strip().matches("(if|for|while|switch) .*")) {
                String brace = head.replaceFirst("\\S.*", "}");
                int length = lines.subList(i, lines.size()).indexOf(brace) + 1;
                desk.due(head.strip() + " is short", true, length > 0 && length <= 60);
            }
        }
    }

    /** Rule 7, "No call may ever throw or fail to end, for any arguments in any state": not at the count's highest, either. */
    private static void countOfSentBytes(Desk desk) throws Exception {
        GuestTower x = new GuestTower();
        Desk.load(x, 0, 64, 0, "AT 16\nOUT r0\nJUMP 16");
        Object guest = ((Object[]) field(x, "guests").get(x))[0];
        Object machine = field(guest, "machine").get(guest);
        Object console = field(machine, "console").get(machine);
        field(console, "sent").setInt(console, Integer.MAX_VALUE);
        desk.due("run with a count of sent bytes that goes round", 5000, x.run(0, 5000));
        desk.due("output of it", false, x.output(0, 0) < -1);
    }

    private static Field field(Object of, String name) throws Exception {
        Field field = of.getClass().getDeclaredField(name);
        field.setAccessible(true);
        return field;
    }
}
