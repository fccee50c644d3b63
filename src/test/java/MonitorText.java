import java.io.IOException;
import java.nio.file.Files;
import java.nio.file.Path;

/** The monitor's text, assembled by the class itself; main writes it as GuestTower.java holds it. */
final class MonitorText {
    private static final Path FILE = Path.of("src/main/monitor/monitor.asm");

    private MonitorText() {
    }

    /** Without remarks and empty lines, which would not find room on the tape's 3,000 bytes. */
    static String text() throws IOException {
        StringBuilder text = new StringBuilder();
        for (String line : Files.readAllLines(FILE)) {
            String counted = line.replaceFirst(";.*", "").strip();
            if (!counted.isEmpty()) {
                text.append(counted).append('\n');
            }
        }
        return text.toString();
    }

    static int[] words() throws IOException {
        GuestTower x = new GuestTower();
        int length = Desk.load(x, 0, 1024, 0, text());
        if (length < 0) {
            throw new IllegalStateException("the monitor's text: fault " + x.fault(0) + " in line " + x.fault(1));
        }
        int[] words = new int[length];
        for (int i = 0; i < length; i++) {
            words[i] = x.word(0, i);
        }
        return words;
    }

    public static void main(String[] args) throws IOException {
        int[] words = words();
        StringBuilder rows = new StringBuilder();
        for (int i = 0; i < words.length; i++) {
            rows.append(i % 16 == 0 ? "            " : " ").append(words[i]);
            rows.append(i + 1 == words.length ? "\n" : i % 16 == 15 ? ",\n" : ",");
        }
        System.out.print(rows);
    }
}
