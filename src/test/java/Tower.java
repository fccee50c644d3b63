import java.nio.charset.StandardCharsets;

/** A GuestTower whose calls are counted: nothing is promised behind its 512th, so no test may go that far. */
final class Tower {
    static final int CALLS = 512;

    private final GuestTower x = new GuestTower();
    private int calls = 0;

    private GuestTower asked() {
        calls++;
        if (calls > CALLS) {
            throw new IllegalStateException("a test makes more than 512 calls on one object");
        }
        return x;
    }

    int callsLeft() {
        return CALLS - calls;
    }

    int feed(int a, int b, int c, int d, int e) {
        return asked().feed(a, b, c, d, e);
    }

    int load(int g, int size, int depth, int n) {
        return asked().load(g, size, depth, n);
    }

    int fault(int what) {
        return asked().fault(what);
    }

    int run(int g, int steps) {
        return asked().run(g, steps);
    }

    boolean type(int g, int b) {
        return asked().type(g, b);
    }

    int look(int g, int what) {
        return asked().look(g, what);
    }

    int word(int g, int address) {
        return asked().word(g, address);
    }

    int output(int g, int i) {
        return asked().output(g, i);
    }

    int disk(int g, int block, int i) {
        return asked().disk(g, block, i);
    }

    /** The bytes, and as many 0 as the last twenty want: what the last feed answers, 0 without one. */
    int feedBytes(byte[] bytes) {
        int there = 0;
        for (int i = 0; i < bytes.length; i += 20) {
            int[] numbers = new int[5];
            for (int k = 0; k < 20; k++) {
                int b = i + k < bytes.length ? bytes[i + k] & 255 : 0;
                numbers[k / 4] = numbers[k / 4] << 8 | b;
            }
            there = feed(numbers[0], numbers[1], numbers[2], numbers[3], numbers[4]);
        }
        return there;
    }

    int feedText(String text) {
        return feedBytes(text.getBytes(StandardCharsets.ISO_8859_1));
    }

    int loadText(int g, int size, int depth, String text) {
        feedText(text);
        return load(g, size, depth, text.length());
    }
}
