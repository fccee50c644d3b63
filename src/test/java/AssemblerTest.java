import java.nio.charset.StandardCharsets;
import java.util.Random;

/** Promises 3 and 4: load and fault. */
public final class AssemblerTest {
    private final Desk desk = new Desk("AssemblerTest");
    private final Random random = new Random(5);

    public static void main(String[] args) {
        AssemblerTest test = new AssemblerTest();
        test.refusals();
        test.words();
        test.lines();
        test.labels();
        test.faultOrder();
        test.sizes();
        test.guestStays();
        int rounds = args.length > 0 ? Integer.parseInt(args[0]) : 20000;
        for (int i = 0; i < rounds && test.desk.wrong() == 0; i++) {
            test.randomText(i);
        }
        test.desk.end();
    }

    /** A text, the fault and line due, or 0 and the address behind it. */
    private void fault(String text, int size, int fault, int lineOrEnd) {
        GuestTower x = new GuestTower();
        int answer = Desk.load(x, 1, size, 0, text);
        desk.due("load of " + text, fault == 0 ? lineOrEnd : -1, answer);
        desk.due("fault(0) of " + text, fault, x.fault(0));
        desk.due("fault(1) of " + text, fault == 0 ? 0 : lineOrEnd, x.fault(1));
        desk.due("fault(2)", -1, x.fault(2));
        desk.due("fault(-1)", -1, x.fault(-1));
        desk.due("look of " + text, fault == 0 ? size : -1, x.look(1, 10));
    }

    private void one(String line, int fault) {
        fault("\n" + line, 64, fault, fault == 0 ? new ModelAssembler(line.getBytes(StandardCharsets.ISO_8859_1), 64).here : 2);
    }

    private void refusals() {
        GuestTower x = new GuestTower();
        byte[] text = "WORD 7".getBytes(StandardCharsets.ISO_8859_1);
        Desk.feed(x, text);
        int[][] wrong = {{-1, 64, 0, 6}, {3, 64, 0, 6}, {0, 63, 0, 6}, {0, 1025, 0, 6}, {0, 64, -1, 6}, {0, 64, 3, 6},
            {0, 64, 0, -1}, {0, 64, 0, 21}, {Integer.MAX_VALUE, 64, 0, 6}, {0, Integer.MIN_VALUE, 0, 6},
            {0, 64, Integer.MAX_VALUE, 6}, {0, 64, 0, Integer.MAX_VALUE}, {0, 64, 0, Integer.MIN_VALUE}};
        for (int[] w : wrong) {
            desk.due("load refused", -2, x.load(w[0], w[1], w[2], w[3]));
            desk.due("fault ahead of any", -1, x.fault(0));
        }
        desk.due("the tape stays behind a -2", 1, x.load(2, 1024, 2, 6));
        desk.due("word", 7, x.word(2, 0));
        desk.due("the tape is empty then", -2, x.load(2, 64, 0, 1));
        desk.due("fault behind a -2 is the one ahead of it", 0, x.fault(0));
        desk.due("guest stays behind a -2", 1024, x.look(2, 10));
        desk.due("nothing at all", 0, x.load(2, 64, 0, 0));
        desk.due("guest anew", 64, x.look(2, 10));
        Desk.feed(x, "BAD".getBytes(StandardCharsets.ISO_8859_1));
        desk.due("a fault", -1, x.load(2, 64, 0, 3));
        desk.due("the tape is empty behind a fault", -2, x.load(2, 64, 0, 1));
        desk.due("fault(0)", 1, x.fault(0));
        desk.due("fault(1)", 1, x.fault(1));
        Desk.feed(x, "WORD 1\nWORD 2".getBytes(StandardCharsets.ISO_8859_1));
        desk.due("the first n bytes alone", 1, x.load(2, 64, 0, 7));
        desk.due("fault(0) is 0 again", 0, x.fault(0));
        desk.due("fault(1) is 0 again", 0, x.fault(1));
    }

    private void words() {
        String[] orders = {"HALT", "SET r1 9", "LOAD r2 9", "STORE r3 9", "LOADX r4 r5 9", "STOREX r6 r7 9", "MOVE r0 r1",
            "ADD r1 r2", "SUB r2 r3", "AND r3 r4", "LESS r4 r5", "SHIFT r5 9", "JUMP 9", "ZERO r6 9", "GO r7", "CALL r0 9",
            "SVC 9", "LPSW 9", "SPSW 9", "SETT r1", "GETT r2", "IN r3", "OUT r4", "GETB r5 r6 9", "PUTB r7 r0 9"};
        int[] due = {0, 0, 8, 9, 16, 9, 24, 9, 37, 9, 55, 9, 1, 0, 10, 0, 19, 0, 28, 0, 37, 0, 40, 9, 0, 9, 48, 9, 56, 0,
            0, 9, 0, 9, 0, 9, 0, 9, 8, 0, 16, 0, 24, 0, 32, 0, 46, 9, 56, 9};
        GuestTower x = new GuestTower();
        desk.due("all orders", 50, Desk.load(x, 0, 64, 0, String.join("\n", orders)));
        for (int i = 0; i < 50; i++) {
            desk.due("word " + i, i % 2 == 0 ? i / 2 * 64 + due[i] : due[i], x.word(0, i));
        }
        for (String order : orders) {
            one(order, 0);
            one(order + " 1", 1);
            one(order + " r1", 1);
            one(order.toLowerCase(), 1);
            one(order.replaceFirst(" ?[^ ]*$", ""), order.equals("HALT") ? 0 : 1);
            if (order.contains(" ")) {
                one(order.replaceFirst(" ", ""), 1);
                one(order.replaceFirst(" ", ", "), 1);
            }
        }
    }

    private void lines() {
        for (String good : new String[] {"", "   ", ";", " ; what? r9 @", "a:", "  a:  ", "a:HALT", "  a:  HALT  ;x", "HALT;x",
            "SET    r1     5   ", "SET r1 00005", "SET r7 65535", "WORD 0", "SPACE 0", "AT 0", "r1: SET r1 r1", "a1b2c3d4: WORD a1b2c3d4",
            "a: WORD a+65535", "a: WORD a+0", "z9: JUMP z9+00001"}) {
            one(good, 0);
        }
        for (String bad : new String[] {"a", "a :", "a: b:", "a:b:", ":", "a::", "1a:", "A:", "a_b:", "abcdefghi:", "abcdefghi: HALT",
            "HALT HALT", "HALT:", "SET r8 1", "SET r 1", "SET r01 1", "SET R1 1", "SET 1 r1", "SET r1 65536", "SET r1 99999",
            "SET r1 000001", "SET r1 -1", "SET r1 +1", "SET r1 a+", "SET r1 a +1", "SET r1 a+ 1", "SET r1 a+b", "SET r1 1+a",
            "SET r1 a+65536", "SET r1 a+000001", "SET r1 a-1", "SET r1 abcdefghi", "SET r1 A", "SET r1", "SET", "SETX r1 1",
            "WORD", "WORD r1 1", "WORD 1 2", "SPACE a", "SPACE", "SPACE 1 1", "AT a", "AT", "AT a+1", "SPACE 65536", "AT 65536",
            "MOVE r1", "MOVE r1r2", "MOVE r1 r2 r3", "MOVE r1,r2", "SET\tr1 1", "HALT\r", "HALT ;\u007f", ";\u00e9", ";\t", "\u0000",
            "set r1 1", "Halt", "STOREXX r1 r2 3", "S", "LOADX r1 5", "a: SET r1 5 b:", "LOADX  r1 r2", "ATT 5", "NOP"}) {
            one(bad, 1);
        }
        for (int b = 0; b < 256; b++) {
            boolean good = b == 10 || b >= 32 && b <= 126;
            fault("WORD 1 ;" + (char) b, 64, good ? 0 : 1, 1);
        }
        fault("WORD 1\nWORD 2\n\n;\nHALT", 64, 0, 4);
        fault("WORD 1\nWORD 2\n\n;\nHALT\n\n\n", 64, 0, 4);
        fault("\n\n\nbad", 64, 1, 4);
        fault("AT 10\nAT 10\nAT 9", 64, 1, 3);
        fault("SPACE 5\nAT 4", 64, 1, 2);
    }

    private void labels() {
        GuestTower x = new GuestTower();
        desk.due("labels", 30, Desk.load(x, 0, 64, 1, Desk.lines("WORD z/WORD z+1/a: AT 20/b:/c: SPACE 3/d:e1/").replace("e1", "SET r1 a")
            + "WORD b\nWORD c\nWORD d+65535\nWORD z+65530\nz: WORD 5"));
        int[][] due = {{0, 29}, {1, 30}, {2, 0}, {19, 0}, {20, 0}, {23, 72}, {24, 2}, {25, 20}, {26, 20}, {27, 22}, {28, 23}, {29, 5}, {30, 0}};
        for (int[] d : due) {
            desk.due("word " + d[0], d[1], x.word(0, d[0]));
        }
        StringBuilder hundred = new StringBuilder();
        for (int i = 1; i <= 100; i++) {
            hundred.append("l" + i + ":\n");
        }
        fault(hundred + "WORD l100", 64, 0, 1);
        fault(hundred + "WORD 1\nm:", 64, 3, 102);
        fault(hundred + "l7:", 64, 2, 101);
        fault(hundred + "m: SPACE 65", 64, 3, 101);
        fault(hundred + "m: bad", 64, 1, 101);
    }

    private void faultOrder() {
        fault("a:\na: BAD", 64, 1, 2);
        fault("a:\na: SPACE 65", 64, 2, 2);
        fault("a:\nSPACE 65\na:", 64, 4, 2);
        fault("WORD x\na:\na:", 64, 2, 3);
        fault("WORD x\nSPACE 64", 64, 4, 2);
        fault("WORD y\nWORD x\ny:", 64, 5, 2);
        fault("WORD y+5\nWORD x\nx:", 64, 5, 1);
        fault("AT 5\na:\na: AT 4", 64, 1, 3);
        fault("WORD x\n;\u0001", 64, 1, 2);
    }

    private void sizes() {
        for (int size : new int[] {64, 65, 1023, 1024}) {
            fault("SPACE " + size, size, 0, size);
            fault("SPACE " + (size + 1), size, 4, 1);
            fault("AT " + size + "\nx: SPACE 0\ny:", size, 0, size);
            fault("AT " + (size + 1), size, 4, 1);
            fault("AT " + size + "\nWORD 1", size, 4, 2);
            fault("AT " + (size - 1) + "\nWORD x\nx:", size, 0, size);
            fault("AT " + (size - 1) + "\nHALT", size, 4, 2);
            fault("AT " + (size - 2) + "\nHALT", size, 0, size);
            fault("SPACE 1\nSPACE 65535", size, 4, 2);
            fault("AT 65535", size, 4, 1);
        }
    }

    private void guestStays() {
        for (int depth = 0; depth < 3; depth++) {
            GuestTower x = new GuestTower();
            Desk.load(x, 0, 70, depth, Desk.lines("WORD 3/AT 16/SET r1 5/OUT r1/PUTB r0 r0 0/JUMP 16"));
            x.type(0, 1);
            x.run(0, 3);
            desk.due("a fault", -1, Desk.load(x, 0, 64, 0, "SPACE 1\nAT 0"));
            desk.due("PC stays", 22, x.look(0, 1));
            desk.due("steps stay", 3, x.look(0, 7));
            desk.due("size stays", 70, x.look(0, 10));
            desk.due("depth stays", depth, x.look(0, 11));
            desk.due("word stays", 3, x.word(0, 0));
            desk.due("output stays", 5, x.output(0, 0));
            desk.due("disk stays", 3, x.disk(0, 0, 0));
            desk.due("run goes on", 1, x.run(0, 1));
            int[] begun = {0, 16, 0, 100, 0, 0, 0, 0, 0, 0, 100, 2 - depth};
            desk.due("anew", 0, Desk.load(x, 0, 100, 2 - depth, ";"));
            new ModelMachine(100, new int[0]).compare(desk, "anew", x, 0, 2 - depth);
            for (int what = 0; what < begun.length; what++) {
                desk.due("anew " + what, begun[what], x.look(0, what));
            }
        }
    }

    private static final String[] PIECES = {"HALT", "SET r1 5", "LOAD r2 a", "LOADX r1 r2 b+1", "MOVE r1 r2", "GO r3", "JUMP c",
        "WORD 5", "WORD a", "WORD b+65535", "SPACE 3", "AT 20", "AT 40", "SPACE 30", "STOREX r7 r0 abcdefgh", "WORD 65535",
        "SVC 7", "GETB r1 r2 3", "PUTB r4 r5 a", "IN r1", "OUT r2", "SETT r3", "GETT r4", "LPSW a", "SPSW b", "CALL r1 a", "ZERO r1 a",
        "SHIFT r1 17", "LESS r1 r2", "AND r3 r4", "SUB r5 r6", "ADD r1 r7", "STORE r1 9"};
    private static final String BYTES = " :;+rab019HSE\n\t~W";

    private void randomText(int round) {
        StringBuilder text = new StringBuilder();
        int lines = random.nextInt(14);
        for (int i = 0; i < lines; i++) {
            if (random.nextInt(4) == 0) {
                text.append("a b c abcdefgh d1".split(" ")[random.nextInt(5)]).append(random.nextInt(9) == 0 ? " :" : ":");
            }
            text.append("  ".substring(random.nextInt(3)));
            text.append(random.nextInt(5) == 0 ? "" : PIECES[random.nextInt(PIECES.length)]);
            text.append(random.nextInt(5) == 0 ? " ; x" : "");
            text.append(i + 1 < lines || random.nextBoolean() ? "\n" : "");
        }
        int changes = random.nextInt(3) == 0 ? random.nextInt(4) : 0;
        for (int i = 0; i < changes && text.length() > 0; i++) {
            int at = random.nextInt(text.length());
            char c = BYTES.charAt(random.nextInt(BYTES.length()));
            switch (random.nextInt(3)) {
                case 0: text.setCharAt(at, c); break;
                case 1: text.insert(at, c); break;
                default: text.deleteCharAt(at); break;
            }
        }
        byte[] bytes = text.toString().getBytes(StandardCharsets.ISO_8859_1);
        int size = 64 + random.nextInt(8);
        ModelAssembler model = new ModelAssembler(bytes, size);
        GuestTower x = new GuestTower();
        int depth = random.nextInt(3);
        desk.due("load of " + text, model.fault == 0 ? model.here : -1, Desk.load(x, 0, size, depth, bytes));
        desk.due("fault(0) of " + text, model.fault, x.fault(0));
        desk.due("fault(1) of " + text, model.line, x.fault(1));
        for (int i = 0; i <= size; i++) {
            desk.due("word " + i + " of " + text, model.fault != 0 || i == size ? -1 : model.words[i], x.word(0, i));
        }
    }
}
