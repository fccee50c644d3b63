import java.io.ByteArrayOutputStream;
import java.nio.charset.StandardCharsets;
import java.util.Arrays;
import java.util.Random;

/** All promises: 512 random calls on an object, right and wrong ones, each held against the models. */
public final class CallsTest {
    private static final int[] EDGES = {-1, 0, 1, 2, 3, 4, 5, 6, 7, 8, 9, 10, 11, 12, 15, 16, 19, 20, 25, 27, 28, 63, 64, 99, 100, 128,
        255, 256, 499, 500, 1023, 1024, 1025, 3000, 5000, 5001, 65535, 65536, Integer.MAX_VALUE, Integer.MIN_VALUE};
    private static final String[] TEXTS = {"", "AT 16/l: OUT r1/SET r2 1/ADD r1 r2/IN r3/JUMP l", "AT 16/HALT", "AT 16/LOAD r1 9999",
        "AT 4/WORD 0/WORD 16/WORD 0/WORD 64/AT 16/SET r1 5/SETT r1/LPSW u/u: WORD 1/WORD p/WORD 0/WORD 64/p: ADD r4 r1/JUMP p",
        "a: WORD a/a:", "AT 16/l: PUTB r1 r0 20/GETB r2 r1 30/SET r4 1/ADD r1 r4/SET r5 40/ADD r2 r5/JUMP l", "SPACE 65", "WORD x", "ABC",
        "AT 4/WORD 1/WORD 20/WORD 3/WORD 40/AT 16/SVC 1/AT 23/SVC 9", "AT 16/SPSW 40/LPSW 40", "AT 40/AT 30", "AT 16/SET r1 0/GO r1"};

    private final Desk desk = new Desk("CallsTest");
    private final Random random = new Random(11);
    private GuestTower x;
    private ByteArrayOutputStream tape;
    private final ModelMachine[] guests = new ModelMachine[3];
    private final int[] depths = new int[3];
    private int fault;
    private int line;

    public static void main(String[] args) {
        CallsTest test = new CallsTest();
        int objects = args.length > 0 ? Integer.parseInt(args[0]) : 400;
        for (int i = 0; i < objects && test.desk.wrong() == 0; i++) {
            test.object();
        }
        test.desk.end();
    }

    private void object() {
        x = new GuestTower();
        tape = new ByteArrayOutputStream();
        Arrays.fill(guests, null);
        fault = -1;
        line = -1;
        int calls = 0;
        while (calls < 512) {
            calls += someCalls(512 - calls);
        }
    }

    private int any() {
        return random.nextInt(20) == 0 ? random.nextInt() : EDGES[random.nextInt(EDGES.length)];
    }

    private int below(int limit) {
        return random.nextInt(10) == 0 ? any() : random.nextInt(limit);
    }

    private ModelMachine guest(int g) {
        return g < 0 || g > 2 ? null : guests[g];
    }

    private int someCalls(int left) {
        switch (random.nextInt(12)) {
            case 0: return feedText(left);
            case 1: feed(random.nextInt(), random.nextInt(), random.nextInt(), random.nextInt(), random.nextInt()); return 1;
            case 2: load(below(3), random.nextInt(4) == 0 ? any() : 64 + random.nextInt(70), below(3), below(3001)); return 1;
            case 3: fault(); return 1;
            case 4:
            case 5: run(); return 1;
            case 6: return typeSome(left);
            case 7: look(); return 1;
            case 8: word(); return 1;
            case 9: output(); return 1;
            case 10: disk(); return 1;
            default: look(); return 1;
        }
    }

    /** A text behind an empty tape, and its load. */
    private int feedText(int left) {
        byte[] bytes = TEXTS[random.nextInt(TEXTS.length)].replace('/', '\n').getBytes(StandardCharsets.ISO_8859_1);
        int feeds = (bytes.length + 19) / 20;
        if (feeds + 2 > left) {
            fault();
            return 1;
        }
        load(below(3), 64, 0, 0);
        if (tape.size() > 0) {
            return 1;
        }
        byte[] padded = Arrays.copyOf(bytes, feeds * 20);
        for (int i = 0; i < feeds; i++) {
            int[] n = new int[5];
            for (int k = 0; k < 20; k++) {
                n[k / 4] = n[k / 4] << 8 | padded[i * 20 + k];
            }
            feed(n[0], n[1], n[2], n[3], n[4]);
        }
        load(random.nextInt(3), 64 + random.nextInt(3), random.nextInt(3), bytes.length);
        return feeds + 2;
    }

    private void feed(int... n) {
        int due = -1;
        if (tape.size() <= 2980) {
            for (int number : n) {
                for (int shift = 24; shift >= 0; shift -= 8) {
                    tape.write(number >> shift);
                }
            }
            due = tape.size();
        }
        desk.due("feed", due, x.feed(n[0], n[1], n[2], n[3], n[4]));
    }

    private void load(int g, int size, int depth, int n) {
        int due = -2;
        if (g >= 0 && g <= 2 && size >= 64 && size <= 1024 && depth >= 0 && depth <= 2 && n >= 0 && n <= tape.size()) {
            ModelAssembler model = new ModelAssembler(Arrays.copyOf(tape.toByteArray(), n), size);
            tape.reset();
            fault = model.fault;
            line = model.line;
            due = fault == 0 ? model.here : -1;
            if (fault == 0) {
                guests[g] = new ModelMachine(size, model.words);
                depths[g] = depth;
            }
        }
        desk.due("load " + g + " " + size + " " + depth + " " + n, due, x.load(g, size, depth, n));
    }

    private void fault() {
        int what = below(3);
        desk.due("fault " + what, what == 0 ? fault : what == 1 ? line : -1, x.fault(what));
    }

    private void run() {
        int g = below(3);
        int steps = random.nextInt(3) == 0 ? any() : random.nextInt(30);
        int due = guest(g) == null || steps < 0 || steps > 5000 ? -1 : guest(g).run(steps);
        desk.due("run " + g + " " + steps, due, x.run(g, steps));
    }

    private int typeSome(int left) {
        int count = Math.min(left, random.nextInt(4) == 0 ? 1 + random.nextInt(60) : 1);
        int g = below(3);
        for (int i = 0; i < count; i++) {
            int b = below(256);
            boolean due = guest(g) != null && b >= 0 && b <= 255 && guest(g).typed.size() < 100;
            if (due) {
                guest(g).typed.add(b);
            }
            desk.due("type " + g + " " + b, due, x.type(g, b));
        }
        return count;
    }

    private void look() {
        int g = below(3);
        int what = below(29);
        ModelMachine m = guest(g);
        int due = -1;
        if (m != null && what >= 20 && what <= 27) {
            due = m.r[what - 20];
        } else if (m != null && what >= 0 && what <= 11) {
            due = new int[] {m.mode, m.pc, m.base, m.bound, m.timer, m.runOut ? 1 : 0, m.halted ? 1 : 0, m.steps, m.console.size(),
                m.typed.size(), m.memory.length, depths[g]}[what];
        }
        desk.due("look " + g + " " + what, due, x.look(g, what));
    }

    private void word() {
        int g = below(3);
        int address = below(70);
        ModelMachine m = guest(g);
        int due = m == null || address < 0 || address >= m.memory.length ? -1 : m.memory[address];
        desk.due("word " + g + " " + address, due, x.word(g, address));
    }

    private void output() {
        int g = below(3);
        int i = below(random.nextBoolean() ? 5 : 600);
        ModelMachine m = guest(g);
        int due = m == null || i < 0 || i >= 500 || i >= m.console.size() ? -1 : m.console.get(i);
        desk.due("output " + g + " " + i, due, x.output(g, i));
    }

    private void disk() {
        int g = below(3);
        int block = below(8);
        int i = below(16);
        ModelMachine m = guest(g);
        int due = m == null || block < 0 || block > 7 || i < 0 || i > 15 ? -1 : m.disk[block][i];
        desk.due("disk " + g + " " + block + " " + i, due, x.disk(g, block, i));
    }
}
