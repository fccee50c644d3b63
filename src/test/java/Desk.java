import java.nio.charset.StandardCharsets;

/** What the tests share: feeding a text, and telling what was not as due. */
final class Desk {
    private int wrong = 0;
    private int asked = 0;
    private final String name;

    Desk(String name) {
        this.name = name;
    }

    void due(String what, long want, long got) {
        asked++;
        if (got != want) {
            wrong++;
            if (wrong <= 50) {
                System.out.println(name + ": " + what + " answered " + got + ", due is " + want);
            }
        }
    }

    void due(String what, boolean want, boolean got) {
        due(what, want ? 1 : 0, got ? 1 : 0);
    }

    int wrong() {
        return wrong;
    }

    void end() {
        System.out.println(name + ": " + asked + " answers, " + wrong + " wrong");
        if (wrong > 0) {
            System.exit(1);
        }
    }

    static int feed(GuestTower x, byte[] bytes) {
        int there = 0;
        for (int i = 0; i < bytes.length; i += 20) {
            int[] numbers = new int[5];
            for (int k = 0; k < 20; k++) {
                int b = i + k < bytes.length ? bytes[i + k] & 255 : 0;
                numbers[k / 4] = numbers[k / 4] << 8 | b;
            }
            there = x.feed(numbers[0], numbers[1], numbers[2], numbers[3], numbers[4]);
        }
        return there;
    }

    static int load(GuestTower x, int g, int size, int depth, byte[] bytes) {
        feed(x, bytes);
        return x.load(g, size, depth, bytes.length);
    }

    static int load(GuestTower x, int g, int size, int depth, String text) {
        return load(x, g, size, depth, text.getBytes(StandardCharsets.ISO_8859_1));
    }

    /** Lines are written with / between them. */
    static String lines(String text) {
        return text.replace('/', '\n');
    }
}
