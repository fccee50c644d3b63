import java.util.Random;

/**
 * Promises 3, 5 to 10: random programs on the three depths, held against the model of the bare machine.
 * It looks at everything each time, so it makes more than the 512 calls that the document promises for.
 */
public final class TowerTest {
    private static final String[] A_N = {"SET", "SET", "SET", "LOAD", "STORE", "SHIFT", "ZERO", "CALL"};
    private static final String[] A_B_N = {"LOADX", "STOREX", "GETB", "PUTB"};
    private static final String[] A_B = {"MOVE", "ADD", "SUB", "AND", "LESS"};
    private static final String[] A = {"GO", "SETT", "SETT", "GETT", "IN", "OUT"};
    private static final String[] N = {"JUMP", "SVC", "LPSW", "LPSW", "LPSW", "SPSW"};

    private final Random random;
    private final Desk desk = new Desk("TowerTest");
    private int size;
    private int[] statusPlaces;

    private TowerTest(long seed) {
        random = new Random(seed);
    }

    public static void main(String[] args) {
        int rounds = args.length > 0 ? Integer.parseInt(args[0]) : 400;
        TowerTest test = new TowerTest(args.length > 1 ? Long.parseLong(args[1]) : 1);
        for (int i = 0; i < rounds && test.desk.wrong() == 0; i++) {
            test.round(i);
        }
        test.desk.end();
    }

    private String pick(String[] of) {
        return of[random.nextInt(of.length)];
    }

    private String register() {
        return " r" + random.nextInt(random.nextInt(3) == 0 ? 8 : 3);
    }

    private int number() {
        switch (random.nextInt(12)) {
            case 0: return random.nextInt(16);
            case 1: return size - 20 + random.nextInt(24);
            case 2: return 65535 - random.nextInt(20);
            case 3: return random.nextInt(65536);
            case 4: return statusPlaces[random.nextInt(statusPlaces.length)];
            case 5: return 16 + 2 * random.nextInt(size / 2 - 8);
            case 6: return random.nextInt(6);
            case 7: return 8 + random.nextInt(2);
            default: return 16 + 2 * random.nextInt(20);
        }
    }

    private String instruction() {
        int kind = random.nextInt(40);
        if (kind < 15) {
            return pick(A_N) + register() + " " + number();
        } else if (kind < 19) {
            return pick(A_B_N) + register() + register() + " " + number();
        } else if (kind < 24) {
            return pick(A_B) + register() + register();
        } else if (kind < 30) {
            return pick(A) + register();
        } else if (kind < 38) {
            String name = pick(N);
            int n = name.equals("LPSW") ? statusPlaces[random.nextInt(statusPlaces.length)] : number();
            return name + " " + n;
        } else if (kind < 39) {
            return "WORD " + random.nextInt(65536) + "\nWORD " + number();
        }
        return random.nextInt(4) == 0 ? "HALT" : "LPSW " + statusPlaces[random.nextInt(statusPlaces.length)];
    }

    private String status() {
        int mode = random.nextInt(3) == 0 ? 0 : random.nextInt(8) == 0 ? random.nextInt(65536) : 1;
        int base = random.nextInt(3) > 0 ? 0 : random.nextInt(5) == 0 ? random.nextInt(65536) : random.nextInt(size + 4);
        int bound = random.nextInt(3) > 0 ? size : random.nextInt(5) == 0 ? random.nextInt(65536) : random.nextInt(size + 4);
        int pc = base > 0 && base < size - 16 && random.nextInt(3) > 0 ? random.nextInt(size - base) : 16 + 2 * random.nextInt(24);
        return "WORD " + mode + "\nWORD " + pc + "\nWORD " + base + "\nWORD " + bound + "\n";
    }

    private String program() {
        int[] sizes = {64, 65, 80, 128, 200, 1024};
        size = sizes[random.nextInt(sizes.length)];
        statusPlaces = new int[] {0, 4, size - 4, size - 8, size - 12, size - 16, size - 3};
        StringBuilder text = new StringBuilder("AT 4\n");
        text.append(random.nextInt(8) == 0 ? "" : status());
        text.append("AT 16\n");
        if (random.nextInt(2) == 0) {
            text.append("SET r1 " + (1 + random.nextInt(9)) + "\nSETT r1\nLPSW " + (size - 8) + "\n");
        }
        int count = (size - 16 - 16 - 6) / 2 - random.nextInt(5);
        for (int i = 0; i < count && i < 90; i++) {
            text.append(instruction()).append('\n');
        }
        text.append("AT " + (size - 16) + "\n" + status() + status() + status() + status());
        return text.toString();
    }

    private void round(int number) {
        String text = program();
        GuestTower x = new GuestTower();
        ModelMachine[] models = new ModelMachine[3];
        for (int depth = 0; depth < 3; depth++) {
            int length = Desk.load(x, depth, size, depth, text);
            desk.due("round " + number + " load, fault " + x.fault(0) + " line " + x.fault(1), size, length);
            int[] words = new int[size];
            for (int i = 0; i < size; i++) {
                words[i] = x.word(depth, i);
            }
            models[depth] = new ModelMachine(size, words);
            models[depth].compare(desk, "round " + number + " depth " + depth + " begun", x, depth, depth);
        }
        for (int part = 0; part < 12; part++) {
            int steps = part < 8 ? random.nextInt(6) : part < 11 ? random.nextInt(200) : 5000;
            int typed = random.nextInt(3) == 0 ? random.nextInt(4) : 0;
            for (int depth = 0; depth < 3; depth++) {
                for (int i = 0; i < typed; i++) {
                    desk.due("type", models[depth].typed.size() < 100, x.type(depth, 77 * typed + i & 255));
                    models[depth].typed.add(77 * typed + i & 255);
                }
                String where = "round " + number + " depth " + depth + " part " + part;
                desk.due(where + " run", models[depth].run(steps), x.run(depth, steps));
                models[depth].compare(desk, where, x, depth, depth);
            }
        }
        if (desk.wrong() > 0) {
            System.out.println(text);
        }
    }
}
