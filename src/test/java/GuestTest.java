/** Promises 5 to 10: run, type, look, word, output, disk; with the answers written out, on every depth. */
public final class GuestTest {
    private final Desk desk = new Desk("GuestTest");
    private GuestTower x;
    private int g;
    private int depth;

    public static void main(String[] args) {
        GuestTest test = new GuestTest();
        for (int depth = 0; depth < 3; depth++) {
            for (int g = 0; g < 3; g++) {
                test.depth = depth;
                test.g = g;
                test.all();
            }
        }
        test.guestsApart();
        test.desk.end();
    }

    private void all() {
        wrongCalls();
        run();
        operations();
        jumps();
        memoryOperations();
        status();
        trapsOfPc();
        trapsOfUser();
        trapsOfSupervisor();
        trapStorm();
        baseAndBound();
        timer();
        typing();
        output();
        disk();
    }

    private void begin(int size, String text) {
        x = new GuestTower();
        String lines = Desk.lines(text);
        int length = Desk.load(x, g, size, depth, lines);
        desk.due("fault of " + lines, 0, x.fault(0));
        desk.due("length of " + lines, true, length >= 0);
    }

    private void due(String what, long want, long got) {
        desk.due("guest " + g + " depth " + depth + " " + what, want, got);
    }

    private void looks(int... pairs) {
        for (int i = 0; i < pairs.length; i += 2) {
            due("look " + pairs[i], pairs[i + 1], x.look(g, pairs[i]));
        }
    }

    private void wordsFrom(int address, int... words) {
        for (int i = 0; i < words.length; i++) {
            due("word " + (address + i), words[i], x.word(g, address + i));
        }
    }

    private void wrongCalls() {
        begin(64, "WORD 5/AT 63/WORD 9");
        int[] others = {-1, 3, Integer.MAX_VALUE, Integer.MIN_VALUE, (g + 1) % 3, (g + 2) % 3};
        for (int other : others) {
            due("run", -1, x.run(other, 1));
            desk.due("type", false, x.type(other, 1));
            due("look", -1, x.look(other, 0));
            due("word", -1, x.word(other, 0));
            due("output", -1, x.output(other, 0));
            due("disk", -1, x.disk(other, 0, 0));
        }
        due("run -1", -1, x.run(g, -1));
        due("run 5001", -1, x.run(g, 5001));
        due("run least", -1, x.run(g, Integer.MIN_VALUE));
        due("run most", -1, x.run(g, Integer.MAX_VALUE));
        desk.due("type -1", false, x.type(g, -1));
        desk.due("type 256", false, x.type(g, 256));
        for (int what : new int[] {-1, 12, 13, 19, 28, 100, Integer.MAX_VALUE, Integer.MIN_VALUE}) {
            due("look " + what, -1, x.look(g, what));
        }
        due("word -1", -1, x.word(g, -1));
        due("word 0", 5, x.word(g, 0));
        due("word 63", 9, x.word(g, 63));
        due("word 64", -1, x.word(g, 64));
        due("word most", -1, x.word(g, Integer.MAX_VALUE));
        due("word least", -1, x.word(g, Integer.MIN_VALUE));
        for (int[] d : new int[][] {{-1, 0}, {8, 0}, {0, -1}, {0, 16}, {Integer.MAX_VALUE, 0}, {0, Integer.MIN_VALUE}}) {
            due("disk", -1, x.disk(g, d[0], d[1]));
        }
        due("disk 7 15", 0, x.disk(g, 7, 15));
        due("output -1", -1, x.output(g, -1));
        due("output 0", -1, x.output(g, 0));
        looks(0, 0, 1, 16, 2, 0, 3, 64, 4, 0, 5, 0, 6, 0, 7, 0, 8, 0, 9, 0, 10, 64, 11, depth, 20, 0, 27, 0);
    }

    private void run() {
        begin(64, "AT 16/JUMP 16");
        due("run 0", 0, x.run(g, 0));
        due("run 5000", 5000, x.run(g, 5000));
        due("run 5000 again", 5000, x.run(g, 5000));
        looks(6, 0, 7, 10000, 1, 16);
        begin(64, "AT 16/SET r1 7/HALT");
        due("run to the halt", 2, x.run(g, 2));
        looks(1, 18, 6, 1, 7, 2, 21, 7, 0, 0, 2, 0, 3, 64);
        due("run when halted", 0, x.run(g, 5000));
        looks(7, 2);
        desk.due("type when halted", true, x.type(g, 0));
        looks(9, 1);
    }

    private void operations() {
        begin(128, "AT 16/SET r0 65535/SET r1 2/MOVE r2 r0/ADD r2 r1/MOVE r3 r1/SUB r3 r0/SUB r1 r0/MOVE r4 r0/SET r5 4660/AND r4 r5/"
            + "MOVE r6 r5/LESS r6 r0/LESS r0 r5/LESS r5 r5/HALT");
        due("run", 15, x.run(g, 5000));
        looks(20, 0, 21, 3, 22, 1, 23, 3, 24, 4660, 25, 0, 26, 1, 27, 0);
        begin(128, "AT 16/SET r0 32769/MOVE r1 r0/MOVE r2 r0/MOVE r3 r0/MOVE r4 r0/MOVE r5 r0/MOVE r6 r0/SHIFT r0 1/SHIFT r1 17/"
            + "SHIFT r2 16/SHIFT r3 15/SHIFT r4 31/SHIFT r5 33/SHIFT r6 65521/HALT");
        due("run", 15, x.run(g, 5000));
        looks(20, 2, 21, 16384, 22, 32769, 23, 32768, 24, 1, 25, 2, 26, 16384);
    }

    private void jumps() {
        begin(64, "AT 16/JUMP a/HALT/a: ZERO r0 b/HALT/b: SET r1 1/ZERO r1 16/CALL r2 c/HALT/c: SET r3 d/GO r3/HALT/d: HALT");
        due("run", 8, x.run(g, 5000));
        looks(1, 38, 22, 30, 23, 38, 21, 1);
    }

    private void memoryOperations() {
        begin(64, "WORD 0/AT 16/SET r1 77/STORE r1 63/LOAD r2 63/SET r3 65535/STOREX r1 r3 60/LOADX r4 r3 60/LOADX r5 r3 1/HALT");
        due("run", 8, x.run(g, 5000));
        wordsFrom(59, 77, 0, 0, 0, 77);
        looks(22, 77, 24, 77, 25, 0);
    }

    private void status() {
        begin(64, "AT 16/SPSW 40/LPSW p/HALT/p: WORD 0/WORD 4/WORD 26/WORD 30/AT 30/SPSW 26/HALT");
        due("run", 4, x.run(g, 5000));
        wordsFrom(40, 0, 18, 0, 64);
        wordsFrom(52, 0, 6, 26, 30);
        looks(0, 0, 1, 6, 2, 26, 3, 30, 6, 1);
        begin(64, "AT 4/WORD 65535/WORD 40/WORD 1/WORD 63/AT 16/SVC 1");
        due("run", 1, x.run(g, 1));
        looks(0, 1, 1, 40, 2, 1, 3, 63);
        wordsFrom(0, 0, 18, 0, 64);
        wordsFrom(8, 3, 1);
    }

    /** A program that goes to the status, and the trap that is due there: cause, with, PC. */
    private void trap(int mode, int pc, int base, int bound, String at40, int[] due) {
        begin(64, "AT 4/WORD 0/WORD 60/WORD 0/WORD 64/AT 16/LPSW p/p: WORD " + mode + "/WORD " + pc + "/WORD " + base + "/WORD " + bound
            + "/AT 40/" + at40 + "/AT 60/HALT");
        due("run", 3, x.run(g, 5000));
        wordsFrom(0, mode, due[2], base, bound);
        wordsFrom(8, due[0], due[1]);
        looks(0, 0, 1, 60, 6, 1);
    }

    private void trapsOfPc() {
        for (int mode = 0; mode < 2; mode++) {
            trap(mode, 64, 0, 65535, "", new int[] {2, 64, 64});
            trap(mode, 63, 0, 65535, "", new int[] {2, 64, 63});
            trap(mode, 50, 0, 50, "", new int[] {2, 50, 50});
            trap(mode, 49, 0, 50, "", new int[] {2, 50, 49});
            trap(mode, 24, 40, 64, "", new int[] {2, 24, 24});
            trap(mode, 23, 40, 64, "", new int[] {2, 24, 23});
            trap(mode, 65535, 0, 65535, "", new int[] {2, 65535, 65535});
            trap(mode, 65535, 1, 65535, "", new int[] {2, 65535, 65535});
            trap(mode, 0, 65535, 65535, "", new int[] {2, 0, 0});
            trap(mode, 10, 65535, 65535, "", new int[] {2, 10, 10});
            trap(mode, 0, 64, 64, "", new int[] {2, 0, 0});
            trap(mode, 0, 0, 0, "", new int[] {2, 0, 0});
            // PC + 1 is looked at ahead of the operation.
            trap(mode, 40, 0, 41, "WORD 65535", new int[] {2, 41, 40});
            trap(mode, 40, 0, 42, "WORD 65535", new int[] {5, 65535, 40});
            trap(mode, 40, 0, 42, "WORD 1600", new int[] {5, 1600, 40});
            trap(mode, 40, 0, 64, "SVC 65535", new int[] {3, 65535, 42});
            trap(mode, 40, 0, 64, "LOAD r0 64", new int[] {2, 64, 40});
            trap(mode, 40, 0, 63, "STORE r0 63", new int[] {2, 63, 40});
            trap(mode, 0, 40, 64, "LOAD r0 24", new int[] {2, 24, 0});
            trap(mode, 0, 40, 64, "LOADX r0 r0 65535", new int[] {2, 65535, 0});
            trap(mode, 0, 40, 64, "STOREX r0 r0 24", new int[] {2, 24, 0});
        }
    }

    private void trapsOfUser() {
        String[] orders = {"HALT", "LPSW 40", "SPSW 65535", "SETT r1", "GETT r2", "IN r3", "OUT r4", "GETB r5 r6 60", "PUTB r7 r0 0"};
        int[] words = {0, 17 * 64, 18 * 64, 19 * 64 + 8, 20 * 64 + 16, 21 * 64 + 24, 22 * 64 + 32, 23 * 64 + 46, 24 * 64 + 56};
        for (int i = 0; i < orders.length; i++) {
            trap(1, 40, 0, 64, orders[i], new int[] {1, words[i], 40});
        }
        looks(7, 3, 8, 0);
    }

    private void trapsOfSupervisor() {
        trap(0, 40, 0, 64, "LPSW 61", new int[] {2, 64, 40});
        trap(0, 40, 0, 64, "LPSW 64", new int[] {2, 64, 40});
        trap(0, 40, 0, 64, "LPSW 65534", new int[] {2, 65534, 40});
        trap(0, 40, 0, 62, "SPSW 59", new int[] {2, 62, 40});
        wordsFrom(59, 0, 0, 0, 0);
        trap(0, 40, 0, 64, "GETB r0 r0 49", new int[] {2, 64, 40});
        trap(0, 40, 0, 55, "PUTB r0 r0 40", new int[] {2, 55, 40});
        trap(0, 40, 0, 64, "GETB r0 r0 65535", new int[] {2, 65535, 40});
        trap(0, 20, 20, 65535, "GETB r0 r0 29", new int[] {2, 44, 20});
        begin(64, "AT 4/WORD 0/WORD h/WORD 0/WORD 64/AT 16/SET r1 65535/PUTB r0 r1 50/h: HALT");
        due("run", 3, x.run(g, 5000));
        wordsFrom(8, 2, 64);
    }

    private void trapStorm() {
        begin(64, "AT 16/LOAD r0 64");
        due("run", 5000, x.run(g, 5000));
        looks(0, 0, 1, 0, 2, 0, 3, 0, 7, 5000, 6, 0);
        wordsFrom(0, 0, 0, 0, 0);
        wordsFrom(8, 2, 0);
        begin(64, "AT 4/WORD 1/WORD 16/WORD 0/WORD 64/AT 16/SVC 1");
        due("run", 5000, x.run(g, 5000));
        looks(0, 1, 1, 16, 3, 64);
        wordsFrom(0, 1, 18, 0, 64);
    }

    private void baseAndBound() {
        begin(128, "AT 4/WORD 0/WORD 120/WORD 0/WORD 128/AT 16/LPSW p/p: WORD 1/WORD 2/WORD 60/WORD 20/AT 62/LOAD r1 19/STORE r1 0/"
            + "SET r2 1/LOADX r3 r2 65535/STOREX r1 r2 19/AT 79/WORD 4321/AT 120/HALT");
        due("run", 7, x.run(g, 5000));
        looks(21, 4321, 23, 4321, 0, 0, 1, 120);
        wordsFrom(0, 1, 10, 60, 20);
        wordsFrom(8, 2, 20);
        wordsFrom(60, 4321);
        wordsFrom(80, 0);
    }

    private void timer() {
        String text = "AT 4/WORD 0/WORD h/WORD 0/WORD 64/AT 16/SET r1 2/SETT r1/SET r4 1/LPSW u/u: WORD 1/WORD p/WORD 0/WORD 64/"
            + "p: SET r2 1/SET r2 2/SET r2 3/h: GETT r3/HALT";
        begin(64, text);
        due("run", 4, x.run(g, 4));
        looks(0, 1, 1, 28, 4, 2, 5, 0);
        due("run", 1, x.run(g, 1));
        looks(0, 1, 1, 30, 4, 1, 5, 0);
        due("run", 1, x.run(g, 1));
        looks(0, 1, 1, 32, 4, 0, 5, 1, 22, 2);
        due("run", 1, x.run(g, 1));
        looks(0, 0, 1, 34, 4, 0, 5, 0, 22, 2, 7, 7);
        wordsFrom(0, 1, 32, 0, 64);
        wordsFrom(8, 4, 0);
        due("run", 2, x.run(g, 5000));
        looks(23, 0, 6, 1, 4, 0);
        // Neither a supervisor's steps nor a user's traps count; a timer of 0 does not run out.
        begin(64, "AT 4/WORD 0/WORD h/WORD 0/WORD 64/AT 16/SET r1 9/SETT r1/SET r1 1/LPSW u/u: WORD 1/WORD p/WORD 0/WORD 64/"
            + "p: SET r2 1/LOAD r2 64/h: SET r5 5/GETT r3/HALT");
        due("run", 9, x.run(g, 5000));
        looks(23, 8, 4, 8, 5, 0);
        begin(64, "AT 16/LPSW u/u: WORD 1/WORD p/WORD 0/WORD 64/p: JUMP p");
        due("run", 5000, x.run(g, 5000));
        looks(4, 0, 5, 0, 0, 1);
        // A trap that leads to user mode: the timer goes on from where it is.
        begin(64, "AT 4/WORD 1/WORD 40/WORD 0/WORD 64/AT 16/SET r1 4/SETT r1/LPSW u/u: WORD 1/WORD 40/WORD 0/WORD 64/AT 40/SET r2 1/SVC 3");
        due("run", 6, x.run(g, 6));
        looks(4, 2, 5, 0, 1, 42);
        due("run", 3, x.run(g, 3));
        looks(4, 1, 5, 0, 1, 40);
        due("run", 1, x.run(g, 1));
        looks(4, 0, 5, 1, 1, 42);
        due("run", 1, x.run(g, 1));
        looks(4, 0, 5, 0, 1, 40, 0, 1);
        wordsFrom(8, 4, 0);
        due("run", 5000, x.run(g, 5000));
        looks(4, 0, 5, 0, 0, 1);
        wordsFrom(8, 3, 3);
    }

    private void typing() {
        begin(64, "AT 16/IN r1/IN r7/IN r3/JUMP 16");
        desk.due("type 0", true, x.type(g, 0));
        desk.due("type 255", true, x.type(g, 255));
        looks(9, 2);
        due("run", 3, x.run(g, 3));
        looks(21, 0, 27, 255, 23, 65535, 9, 0, 8, 0);
        for (int i = 0; i < 100; i++) {
            desk.due("type " + i, true, x.type(g, i));
        }
        desk.due("the 101st", false, x.type(g, 1));
        looks(9, 100);
        due("run", 2, x.run(g, 2));
        looks(9, 99, 21, 0);
        desk.due("room again", true, x.type(g, 200));
        desk.due("none again", false, x.type(g, 201));
        due("run", 132, x.run(g, 132));
        looks(9, 1, 21, 99, 23, 98, 27, 97);
        due("run", 3, x.run(g, 3));
        looks(9, 0, 21, 99, 23, 65535, 27, 200);
    }

    private void output() {
        begin(64, "AT 16/SET r1 250/SET r2 1/l: OUT r1/ADD r1 r2/JUMP l");
        due("run", 2, x.run(g, 2));
        due("output 0", -1, x.output(g, 0));
        due("run", 1500, x.run(g, 1500));
        looks(8, 500);
        due("run", 300, x.run(g, 300));
        looks(8, 600);
        for (int i = 0; i < 500; i++) {
            // An object is used for 512 calls.
            if (i < 10 || i > 490 || i % 7 == 0) {
                due("output " + i, (250 + i) % 256, x.output(g, i));
            }
        }
        due("output 500", -1, x.output(g, 500));
        due("output most", -1, x.output(g, Integer.MAX_VALUE));
        due("output least", -1, x.output(g, Integer.MIN_VALUE));
    }

    private void disk() {
        begin(128, "AT 16/SET r1 11/SET r2 100/PUTB r1 r2 4/SET r3 65535/GETB r1 r3 65/PUTB r3 r3 65/GETB r2 r2 12/HALT/AT 104/"
            + "WORD 1/WORD 2/WORD 3/WORD 4/WORD 5/WORD 6/WORD 7/WORD 8/WORD 9/WORD 10/WORD 11/WORD 12/WORD 13/WORD 14/WORD 15/WORD 65535");
        due("run", 8, x.run(g, 5000));
        for (int i = 0; i < 16; i++) {
            int value = i == 15 ? 65535 : i + 1;
            due("disk 3", value, x.disk(g, 3, i));
            due("disk 7", value, x.disk(g, 7, i));
            due("disk 4", 0, x.disk(g, 4, i));
            wordsFrom(64 + i, value);
            wordsFrom(112 + i, 0);
        }
        wordsFrom(104, 1, 2, 3, 4, 5, 6, 7, 8);
        wordsFrom(80, 0);
        wordsFrom(63, 0);
    }

    /** What one guest does is seen in no other one. */
    private void guestsApart() {
        x = new GuestTower();
        for (g = 0; g < 3; g++) {
            Desk.load(x, g, 64 + g, 2 - g, Desk.lines("AT 16/SET r1 6" + g + "/OUT r1/IN r2/PUTB r1 r0 17/HALT"));
            x.type(g, 100 + g);
        }
        for (g = 2; g >= 0; g--) {
            desk.due("run", 3 + g, x.run(g, 3 + g));
        }
        for (g = 0; g < 3; g++) {
            looks(21, 60 + g, 22, 100 + g, 7, 3 + g, 10, 64 + g, 11, 2 - g, 6, g == 2 ? 1 : 0, 8, 1, 9, 0);
            due("output", 60 + g, x.output(g, 0));
            due("disk", g == 0 ? 0 : 60 + g, x.disk(g, (60 + g) % 8, 0));
        }
    }
}
