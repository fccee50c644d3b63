/** The boundary cases of PART 1, the machine, one test for each sentence that names one (promises 5 to 10), on every depth. */
public final class EdgesOfMachineTest {
    private static final String PART = "Promise 5 (PART 1)";
    private static final int SUPERVISOR = 0;
    private static final int USER = 1;
    /** Where a trap leads: a HALT at the memory's end. */
    private static final int HANDLER = 62;
    private static final String FULL = "SET r0 65535/SET r1 1/SET r2 2/SET r3 3/SET r4 4/SET r5 5/SET r6 6/SET r7 7/";
    private static final int[] FULL_KEPT = {20, 65535, 21, 1, 22, 2, 23, 3, 24, 4, 25, 5, 26, 6, 27, 7};

    private final Edge edge = new Edge("EdgesOfMachineTest");
    private int mode;
    private int pc;
    private int base;
    private int bound;

    public static void main(String[] args) {
        EdgesOfMachineTest test = new EdgesOfMachineTest();
        for (int depth = 0; depth < 3; depth++) {
            test.edge.depth = depth;
            test.edge.g = depth;
            test.parts();
            test.addresses();
            test.steps();
            test.operations();
            test.supervisorOperations();
            test.traps();
        }
        test.edge.end();
    }

    private void parts() {
        wordsOf16Bits();
        registersToSeven();
        supervisorsRegisters();
        blocksOfDisk();
        begins();
        beginsAnewFromTheEnd();
    }

    private void addresses() {
        goodBelowBound();
        goodBelowSize();
        goodInBothModes();
        sumsGoRound();
        differencesGoRound();
        sumWithBaseDoesNot();
    }

    private void steps() {
        timeTrap();
        fieldsOfWord();
        trapIsAll();
        pcPlusTwo();
        timerFalls();
    }

    private void operations() {
        less();
        shift();
        zero();
        call();
        service();
    }

    private void supervisorOperations() {
        halt();
        statusMode();
        storedStatus();
        timerIsSet();
        nothingTyped();
        lowestBits();
        sixteenWords();
        blockOfEight();
    }

    private void traps() {
        trapOfPc();
        noSuchOperation();
        privileged();
        firstAddress();
        nothingElse();
        nextAddressesGoRound();
        trapOrder();
        trapWords();
        pcOfTrap();
        statusOfTrap();
        timerBehindTrap();
        registersStay();
    }

    /**
     * A machine of 64 words that goes to a status; a trap leads it to the HALT at 62. Words 0 to 3 show 91 to 94, words
     * 8 and 9 show 99 and 98 till there was a trap. The setup's orders end with a / each, the rest begins at word 40 or behind it.
     */
    private void status(int newMode, int newPc, int newBase, int newBound, String setup, String rest) {
        mode = newMode;
        pc = newPc;
        base = newBase;
        bound = newBound;
        edge.begin(64, "WORD 91/WORD 92/WORD 93/WORD 94/WORD 0/WORD " + HANDLER + "/WORD 0/WORD 64/WORD 99/WORD 98/WORD " + mode + "/WORD " + pc + "/WORD " + base
            + "/WORD " + bound + "/AT 16/" + setup + "LPSW 10/" + rest);
        edge.run((int) setup.chars().filter(c -> c == '/').count() + 1);
        edge.looks(0, mode == 0 ? 0 : 1, 1, pc, 2, base, 3, bound);
    }

    /** The order at word 40 is the next one. */
    private void at40(int newMode, int newBase, int newBound, String setup, String order) {
        status(newMode, 40 - newBase, newBase, newBound, setup, "AT 40/" + order);
    }

    private void goesOn(int newPc) {
        edge.run(1);
        edge.looks(1, newPc);
        edge.words(8, 99, 98);
    }

    private void traps(int cause, int with) {
        edge.run(1);
        edge.words(0, mode == 0 ? 0 : 1, cause == 3 ? pc + 2 : pc, base, bound);
        edge.words(8, cause, with);
        edge.looks(0, 0, 1, HANDLER, 2, 0, 3, 64);
    }

    private void wordsOf16Bits() {
        edge.sentence("Promise 8 (PART 1)", "WORDS of 16 bits (0 to 65,535)");
        edge.begin(64, "WORD 0/WORD 65535/AT 16/LOAD r0 0/LOAD r1 1/STORE r1 50/STORE r0 51/SET r2 1/ADD r1 r2/STORE r1 52/SUB r0 r2/STORE r0 53");
        edge.run(9);
        edge.words(50, 65535, 0, 0, 65535);
        edge.looks(20, 65535, 21, 0);
    }

    private void registersToSeven() {
        edge.sentence("Promise 7 (PART 1)", "REGISTERS 0 to 7 (words)");
        edge.begin(64, "AT 16/SET r0 10/SET r1 11/SET r2 12/SET r3 13/SET r4 14/SET r5 15/SET r6 16/SET r7 65535");
        edge.run(8);
        edge.looks(19, -1, 20, 10, 21, 11, 22, 12, 23, 13, 24, 14, 25, 15, 26, 16, 27, 65535, 28, -1);
    }

    private void blocksOfDisk() {
        edge.sentence("Promise 10 (PART 1)", "a DISK of 8 BLOCKS of 16 words");
        edge.begin(64, "AT 16/SET r1 7/PUTB r0 r0 40/PUTB r1 r0 40/AT 40/WORD 1/AT 55/WORD 2/WORD 3");
        edge.run(3);
        for (int block = 0; block < 8; block++) {
            boolean isPut = block == 0 || block == 7;
            edge.due("the first word of block " + block, isPut ? 1 : 0, edge.x.disk(edge.g, block, 0));
            edge.due("the last word of block " + block, isPut ? 2 : 0, edge.x.disk(edge.g, block, 15));
            edge.due("a 17th word of block " + block, -1, edge.x.disk(edge.g, block, 16));
            edge.due("a word ahead of block " + block, -1, edge.x.disk(edge.g, block, -1));
        }
        edge.due("a 9th block", -1, edge.x.disk(edge.g, 8, 0));
        edge.due("a block ahead of the first", -1, edge.x.disk(edge.g, -1, 15));
    }

    /** Each operation of the supervisor with each register: the others stay. */
    private void supervisorsRegisters() {
        edge.sentence("Promise 7 (PART 1)", "REGISTERS 0 to 7 (words)");
        for (int a = 0; a < 8; a++) {
            int value = FULL_KEPT[2 * a + 1];
            at40(SUPERVISOR, 0, 64, FULL, "SETT r" + a);
            goesOn(42);
            edge.looks(4, value);
            edge.looks(FULL_KEPT);
            at40(SUPERVISOR, 0, 64, FULL, "OUT r" + a);
            goesOn(42);
            edge.due("output", value % 256, edge.x.output(edge.g, 0));
            edge.looks(FULL_KEPT);
            at40(SUPERVISOR, 0, 64, FULL + "SETT r0/", "GETT r" + a);
            goesOn(42);
            othersStay(a, 65535);
            at40(SUPERVISOR, 0, 64, FULL, "IN r" + a);
            edge.due("type", true, edge.x.type(edge.g, 200));
            goesOn(42);
            othersStay(a, 200);
            at40(SUPERVISOR, 0, 64, FULL, "PUTB r" + a + " r" + (7 - a) + " " + (40 - FULL_KEPT[2 * (7 - a) + 1] + 65536) % 65536);
            goesOn(42);
            edge.due("block", 24 * 64 + a * 8 + 7 - a, edge.x.disk(edge.g, value % 8, 0));
            edge.looks(FULL_KEPT);
            at40(SUPERVISOR, 0, 64, FULL + "PUTB r" + a + " r1 3/", "GETB r" + a + " r" + (7 - a) + " "
                + (48 - FULL_KEPT[2 * (7 - a) + 1] + 65536) % 65536);
            goesOn(42);
            edge.words(48, 0, HANDLER, 0, 64, 99, 98, 0, 40, 0, 64);
            edge.looks(FULL_KEPT);
        }
    }

    private void othersStay(int a, int value) {
        for (int i = 0; i < 8; i++) {
            edge.looks(20 + i, i == a ? value : FULL_KEPT[2 * i + 1]);
        }
    }

    private void begins() {
        edge.sentence("Promise 3 (PART 1)",
            "A machine begins with all 0, its program from word 0 on, SUPERVISOR, PC 16, base 0, bound the memory's size.");
        for (int size : new int[] {64, 1024}) {
            edge.begin(size, "WORD 7/AT " + (size - 1) + "/WORD 8");
            edge.looks(0, 0, 1, 16, 2, 0, 3, size, 4, 0, 5, 0, 6, 0, 7, 0, 8, 0, 9, 0, 20, 0, 21, 0, 22, 0, 23, 0, 24, 0, 25, 0, 26, 0, 27, 0);
            edge.words(0, 7, 0);
            edge.words(size - 2, 0, 8, -1);
            edge.due("disk", 0, edge.x.disk(edge.g, 0, 0));
            edge.due("disk", 0, edge.x.disk(edge.g, 7, 15));
            edge.due("output", -1, edge.x.output(edge.g, 0));
        }
        // Anew too, behind a program that left nothing as it was.
        edge.begin(64, "AT 16/SET r7 9/SETT r7/OUT r7/PUTB r7 r0 16/LPSW 26/WORD 1/WORD 30/WORD 0/WORD 50/STORE r7 49/SET r0 9");
        edge.due("type", true, edge.x.type(edge.g, 1));
        edge.run(7);
        edge.looks(0, 1, 1, 34, 3, 50, 4, 7, 8, 1, 9, 1, 20, 9);
        edge.words(49, 9);
        edge.due("disk", 64 + 56, edge.x.disk(edge.g, 1, 0));
        edge.due("load anew", 0, edge.x.load(edge.g, 64, edge.depth, 0));
        edge.looks(0, 0, 1, 16, 2, 0, 3, 64, 4, 0, 5, 0, 6, 0, 7, 0, 8, 0, 9, 0, 20, 0, 27, 0);
        edge.words(16, 0);
        edge.words(49, 0);
        edge.due("disk", 0, edge.x.disk(edge.g, 1, 0));
        edge.due("output", -1, edge.x.output(edge.g, 0));
    }

    /** A machine begins anew, too, when the timer has just run out or when it is halted. */
    private void beginsAnewFromTheEnd() {
        edge.sentence("Promise 3 (PART 1)", "A machine begins with all 0");
        at40(USER, 0, 64, "SET r1 1/SETT r1/", "JUMP 40");
        edge.run(1);
        edge.looks(0, 1, 4, 0, 5, 1);
        edge.due("load anew", 18, edge.x.loadText(edge.g, 64, edge.depth, Desk.lines("AT 16/JUMP 16")));
        edge.looks(0, 0, 1, 16, 4, 0, 5, 0);
        edge.run(5000);
        edge.looks(0, 0, 1, 16, 4, 0, 5, 0);
        at40(SUPERVISOR, 0, 64, "", "HALT");
        edge.run(1);
        edge.looks(6, 1);
        edge.due("load anew", 18, edge.x.loadText(edge.g, 64, edge.depth, Desk.lines("AT 16/JUMP 16")));
        edge.looks(6, 0, 7, 0);
        edge.run(5000);
    }

    private void goodBelowBound() {
        edge.sentence(PART, "ADDRESS n is GOOD if n is less than BOUND");
        String contents = "/AT 59/WORD 5959/WORD 6060";
        for (int asked = SUPERVISOR; asked <= USER; asked++) {
            at40(asked, 0, 60, "", "LOAD r1 59" + contents);
            goesOn(42);
            edge.looks(21, 5959);
            at40(asked, 0, 60, "", "LOAD r1 60" + contents);
            traps(2, 60);
            edge.looks(21, 0);
            at40(asked, 0, 60, "", "STORE r1 59" + contents);
            goesOn(42);
            edge.words(59, 0, 6060);
            at40(asked, 0, 60, "", "STORE r1 60" + contents);
            traps(2, 60);
            edge.words(59, 5959, 6060);
            at40(asked, 0, 60, "SET r2 50/", "LOADX r1 r2 9" + contents);
            goesOn(42);
            edge.looks(21, 5959);
            at40(asked, 0, 60, "SET r2 50/", "LOADX r1 r2 10" + contents);
            traps(2, 60);
            at40(asked, 0, 60, "SET r2 50/", "STOREX r2 r2 9" + contents);
            goesOn(42);
            edge.words(59, 50);
            at40(asked, 0, 60, "SET r2 50/", "STOREX r2 r2 10" + contents);
            traps(2, 60);
            at40(asked, 0, 0, "", "HALT");
            traps(2, 40);
        }
        goodBelowBoundOfSupervisor();
    }

    private void goodBelowBoundOfSupervisor() {
        at40(SUPERVISOR, 0, 60, "", "LPSW 56/AT 56/WORD 0/WORD 17/WORD 0/WORD 64");
        goesOn(17);
        at40(SUPERVISOR, 0, 60, "", "LPSW 57/AT 57/WORD 0/WORD 17/WORD 0/WORD 64");
        traps(2, 60);
        at40(SUPERVISOR, 0, 60, "", "SPSW 56");
        goesOn(42);
        edge.words(56, 0, 42, 0, 60);
        at40(SUPERVISOR, 0, 60, "", "SPSW 57");
        traps(2, 60);
        at40(SUPERVISOR, 0, 60, "PUTB r0 r0 10/", "GETB r0 r0 44");
        goesOn(42);
        edge.words(44, 0, 40, 0, 60);
        at40(SUPERVISOR, 0, 60, "PUTB r0 r0 10/", "GETB r0 r0 45");
        traps(2, 60);
        at40(SUPERVISOR, 0, 60, "", "PUTB r0 r0 44/AT 59/WORD 5959");
        goesOn(42);
        edge.due("disk", 5959, edge.x.disk(edge.g, 0, 15));
        at40(SUPERVISOR, 0, 60, "", "PUTB r0 r0 45/AT 59/WORD 5959");
        traps(2, 60);
        edge.due("disk", 0, edge.x.disk(edge.g, 0, 14));
    }

    private void goodBelowSize() {
        edge.sentence(PART, "and BASE + n less than the memory's size: word BASE + n.");
        for (int asked = SUPERVISOR; asked <= USER; asked++) {
            for (int reach : new int[] {25, 64, 65535}) {
                at40(asked, 40, reach, "", "LOAD r1 23/AT 63/WORD 6363");
                goesOn(2);
                edge.looks(21, 6363);
                at40(asked, 40, reach, "", "LOAD r1 24");
                traps(2, 24);
                at40(asked, 40, reach, "SET r1 5/", "STORE r1 23");
                goesOn(2);
                edge.words(62, 0, 5);
                at40(asked, 40, reach, "SET r1 5/", "STORE r1 24");
                traps(2, 24);
            }
            at40(asked, 40, 24, "", "LOAD r1 23/AT 63/WORD 6363");
            goesOn(2);
            // PC itself, at the memory's last words and with a base at its end.
            status(asked, 22, 40, 65535, "", "AT 62/JUMP 7");
            goesOn(7);
            status(asked, 23, 40, 65535, "", "AT 63/WORD 768");
            traps(2, 24);
            status(asked, 0, 62, 65535, "", "AT 62/JUMP 7");
            goesOn(7);
            status(asked, 0, 63, 65535, "", "AT 63/WORD 768");
            traps(2, 1);
            status(asked, 0, 64, 65535, "", "");
            traps(2, 0);
        }
        at40(SUPERVISOR, 40, 65535, "", "SPSW 20");
        goesOn(2);
        edge.words(60, 0, 2, 40, 65535);
        at40(SUPERVISOR, 40, 65535, "", "SPSW 21");
        traps(2, 24);
        at40(SUPERVISOR, 40, 65535, "PUTB r0 r0 10/", "GETB r0 r0 8");
        goesOn(2);
        edge.words(48, 0, 0, 40, 65535);
        at40(SUPERVISOR, 40, 65535, "", "GETB r0 r0 9");
        traps(2, 24);
        edge.begin(1024, "AT 16/LOAD r1 1023/LOAD r2 1024/AT 1023/WORD 9");
        edge.run(1);
        edge.looks(21, 9);
        edge.run(1);
        edge.words(8, 2, 1024);
    }

    private void goodInBothModes() {
        edge.sentence(PART, "(In both modes.)");
        for (int asked : new int[] {SUPERVISOR, USER}) {
            at40(asked, 20, 30, "", "STORE r0 29");
            goesOn(22);
            at40(asked, 20, 30, "", "STORE r0 30");
            traps(2, 30);
            at40(asked, 20, 22, "", "JUMP 3");
            goesOn(3);
            at40(asked, 20, 21, "", "JUMP 3");
            traps(2, 21);
        }
    }

    private void sumsGoRound() {
        edge.sentence(PART, "Sums and differences go round at 65,536");
        sum(65534, 1, 65535);
        sum(65535, 0, 65535);
        sum(65535, 1, 0);
        sum(65535, 65535, 65534);
        sum(32768, 32768, 0);
        // b + N, too.
        at40(SUPERVISOR, 0, 64, "SET r2 65535/", "LOADX r1 r2 1/LOADX r1 r2 64/LOADX r1 r2 0/AT 63/WORD 6363");
        goesOn(42);
        edge.looks(21, 91);
        goesOn(44);
        edge.looks(21, 6363);
        pc = 44;
        traps(2, 65535);
        at40(USER, 0, 64, "SET r2 60/", "STOREX r2 r2 65478/STOREX r2 r2 65476/STOREX r2 r2 65475");
        goesOn(42);
        edge.words(2, 60);
        goesOn(44);
        edge.words(0, 60);
        pc = 44;
        traps(2, 65535);
        at40(SUPERVISOR, 0, 64, "SET r2 65535/SET r3 1/", "PUTB r2 r2 5/GETB r2 r3 65535/GETB r2 r2 0");
        goesOn(42);
        edge.due("disk", HANDLER, edge.x.disk(edge.g, 7, 1));
        edge.run(1);
        edge.words(0, 0, HANDLER, 0, 64, 99, 98, 0, 40, 0, 64);
        edge.run(1);
        edge.words(8, 2, 65535);
    }

    private void sum(int a, int b, int due) {
        at40(USER, 0, 64, "SET r6 " + a + "/SET r7 " + b + "/", "ADD r6 r7");
        goesOn(42);
        edge.looks(26, due, 27, b);
    }

    private void differencesGoRound() {
        edge.sentence(PART, "Sums and differences go round at 65,536");
        int[][] cases = {{0, 0, 0}, {1, 1, 0}, {0, 1, 65535}, {0, 65535, 1}, {65535, 65535, 0}, {65534, 65535, 65535}, {65535, 0, 65535}};
        for (int[] c : cases) {
            at40(USER, 0, 64, "SET r6 " + c[0] + "/SET r7 " + c[1] + "/", "SUB r6 r7");
            goesOn(42);
            edge.looks(26, c[2], 27, c[1]);
        }
        at40(USER, 0, 64, "SET r6 7/", "SUB r6 r6");
        goesOn(42);
        edge.looks(26, 0);
    }

    private void sumWithBaseDoesNot() {
        edge.sentence(PART, "but BASE + n does not.");
        for (int asked = SUPERVISOR; asked <= USER; asked++) {
            // Each of these would be word 40 or word 0, if it went round.
            status(asked, 41, 65535, 65535, "", "AT 40/JUMP 7");
            traps(2, 41);
            status(asked, 1, 65535, 65535, "", "");
            traps(2, 1);
            for (int far : new int[] {64, 65, 1024, 32768, 64716, 65126, 65127, 65472, 65535}) {
                status(asked, 0, far, 65535, "", "");
                traps(2, 0);
                status(asked, 0, far, 1, "", "");
                traps(2, 0);
            }
            status(asked, 65534, 42, 65535, "", "AT 40/JUMP 7");
            traps(2, 65534);
            at40(asked, 40, 65535, "", "LOAD r1 65496");
            traps(2, 65496);
            at40(asked, 40, 65535, "", "STORE r1 65500");
            traps(2, 65500);
        }
        at40(SUPERVISOR, 40, 65535, "", "SPSW 65500");
        traps(2, 65500);
        at40(SUPERVISOR, 40, 65535, "", "GETB r0 r0 65500");
        traps(2, 65500);
    }

    private void timeTrap() {
        edge.sentence(PART, "if the mode is USER and the timer has RUN OUT: TRAP 4 with 0.");
        String soon = "SET r1 1/SETT r1/";
        at40(USER, 0, 64, soon, "SET r2 5/SET r2 6");
        goesOn(42);
        edge.looks(4, 0, 5, 1, 22, 5);
        pc = 42;
        traps(4, 0);
        edge.looks(4, 0, 5, 0, 22, 5);
        // It is ahead of all that the instruction would do, were it a trap of its own.
        at40(USER, 0, 64, soon, "JUMP 65535");
        goesOn(65535);
        pc = 65535;
        traps(4, 0);
        for (String order : new String[] {"WORD 65535", "SVC 7", "HALT", "LOAD r1 64"}) {
            at40(USER, 0, 64, soon, "SET r2 5/" + order);
            goesOn(42);
            pc = 42;
            traps(4, 0);
        }
        // One more of the timer, and it has not run out there.
        at40(USER, 0, 64, "SET r1 2/SETT r1/", "SET r2 5/SET r2 6");
        goesOn(42);
        goesOn(44);
        edge.looks(4, 0, 5, 1, 22, 6);
    }

    private void fieldsOfWord() {
        edge.sentence(PART, "operation w / 64, a = w / 8 % 8, b = w % 8 of the first one w");
        String all = "SET r0 100/SET r1 101/SET r6 106/SET r7 107/";
        at40(USER, 0, 64, all, "WORD 384");
        goesOn(42);
        edge.looks(20, 100);
        at40(USER, 0, 64, all, "WORD 391");
        goesOn(42);
        edge.looks(20, 107, 21, 101, 27, 107);
        at40(USER, 0, 64, all, "WORD 440");
        goesOn(42);
        edge.looks(20, 100, 26, 106, 27, 100);
        at40(USER, 0, 64, all, "WORD 447");
        goesOn(42);
        edge.looks(20, 100, 27, 107);
        // 448 is the next operation, ADD.
        at40(USER, 0, 64, all, "WORD 448");
        goesOn(42);
        edge.looks(20, 200);
    }

    private void trapIsAll() {
        edge.sentence(PART, "A TRAP (below), and that is all of the step");
        for (String order : new String[] {"LOAD r1 64", "SVC 1", "WORD 65535", "HALT"}) {
            at40(USER, 0, 64, "SET r1 1/SETT r1/", order);
            edge.run(1);
            // Neither PC + 2, nor the timer: with 1 it would have run out.
            edge.looks(0, 0, 1, HANDLER, 4, 1, 5, 0, 21, 1);
            edge.run(1);
            edge.looks(1, HANDLER, 4, 1, 5, 0, 6, 1);
        }
    }

    private void pcPlusTwo() {
        edge.sentence(PART, "then PC is PC + 2, unless it was set");
        at40(USER, 0, 64, "", "SET r1 0");
        goesOn(42);
        for (String own : new String[] {"JUMP 40", "ZERO r1 40", "CALL r1 40"}) {
            at40(USER, 0, 64, "", own);
            goesOn(40);
        }
        at40(USER, 0, 64, "SET r1 40/", "GO r1");
        goesOn(40);
        at40(USER, 0, 64, "SET r1 1/", "ZERO r1 50");
        goesOn(42);
        for (int far : new int[] {0, 63, 64, 65535}) {
            at40(USER, 0, 64, "SET r1 " + far + "/", "GO r1");
            goesOn(far);
            at40(USER, 0, 64, "", "JUMP " + far);
            goesOn(far);
            pc = far;
            if (far >= 63) {
                traps(2, far == 63 ? 64 : far);
            }
        }
        status(USER, HANDLER, 0, 64, "", "AT 62/SET r1 5");
        goesOn(64);
        edge.looks(21, 5);
        at40(SUPERVISOR, 0, 64, "", "LPSW 42/WORD 0/WORD 40/WORD 0/WORD 64");
        goesOn(40);
    }

    private void timerFalls() {
        edge.sentence(PART, "if the mode was USER ahead of it and the timer is above 0, it falls by 1: when it is 0 then it has RUN OUT");
        at40(USER, 0, 64, "SET r1 2/SETT r1/SET r2 2/", "JUMP 40");
        edge.looks(4, 2, 5, 0);
        goesOn(40);
        edge.looks(4, 1, 5, 0);
        goesOn(40);
        edge.looks(4, 0, 5, 1);
        traps(4, 0);
        // 0 neither falls nor has run out.
        at40(USER, 0, 64, "", "JUMP 40");
        goesOn(40);
        edge.looks(4, 0, 5, 0);
        edge.run(5000);
        edge.looks(1, 40, 4, 0, 5, 0);
        at40(USER, 0, 64, "SET r1 65535/SETT r1/", "JUMP 40");
        goesOn(40);
        edge.looks(4, 65534, 5, 0);
        at40(SUPERVISOR, 0, 64, "SET r1 1/SETT r1/", "JUMP 40");
        goesOn(40);
        edge.run(5000);
        edge.looks(1, 40, 4, 1, 5, 0);
    }

    private void less() {
        edge.sentence(PART, "a is 1 if a is less than b, else 0");
        int[][] cases = {{0, 0, 0}, {0, 1, 1}, {1, 0, 0}, {1, 1, 0}, {65534, 65535, 1}, {65535, 65535, 0}, {65535, 65534, 0}, {65535, 0, 0},
            {0, 65535, 1}, {32767, 32768, 1}, {32768, 32767, 0}};
        for (int[] c : cases) {
            at40(USER, 0, 64, "SET r3 " + c[0] + "/SET r4 " + c[1] + "/", "LESS r3 r4");
            goesOn(42);
            edge.looks(23, c[2], 24, c[1]);
        }
        at40(USER, 0, 64, "SET r3 9/", "LESS r3 r3");
        goesOn(42);
        edge.looks(23, 0);
    }

    private void shift() {
        edge.sentence(PART, "a times 2 so many times as N % 16 (N / 16 even), or by 2 (odd)");
        int[][] cases = {{65535, 0, 65535}, {65535, 1, 65534}, {1, 15, 32768}, {3, 15, 32768}, {2, 15, 0}, {65535, 16, 65535},
            {65535, 17, 32767}, {32768, 31, 1}, {32767, 31, 0}, {65535, 31, 1}, {65535, 32, 65535}, {65535, 33, 65534}, {1, 47, 32768},
            {65535, 48, 65535}, {65535, 49, 32767}, {1, 65519, 32768}, {32768, 65519, 0}, {40000, 65520, 40000}, {65535, 65535, 1},
            {32767, 65535, 0}, {0, 15, 0}, {0, 31, 0}};
        for (int[] c : cases) {
            at40(USER, 0, 64, "SET r5 " + c[0] + "/", "SHIFT r5 " + c[1]);
            goesOn(42);
            edge.looks(25, c[2]);
        }
    }

    private void zero() {
        edge.sentence(PART, "13 ZERO: so if a is 0.");
        at40(USER, 0, 64, "SET r1 0/", "ZERO r1 50");
        goesOn(50);
        at40(USER, 0, 64, "SET r1 1/", "ZERO r1 50");
        goesOn(42);
        at40(USER, 0, 64, "SET r1 65535/", "ZERO r1 50");
        goesOn(42);
    }

    private void call() {
        edge.sentence(PART, "15 CALL: a is PC + 2, PC is N.");
        status(USER, HANDLER, 0, 64, "", "AT 62/CALL r7 65535");
        goesOn(65535);
        edge.looks(27, 64);
        status(USER, 0, 40, 2, "", "AT 40/CALL r0 0");
        goesOn(0);
        edge.looks(20, 2);
    }

    private void service() {
        edge.sentence(PART, "16 SVC: TRAP 3 with N.");
        for (int asked = SUPERVISOR; asked <= USER; asked++) {
            for (int n : new int[] {0, 64, 65535}) {
                at40(asked, 0, 64, "", "SVC " + n);
                traps(3, n);
            }
            status(asked, HANDLER - 2, 2, 65535, "", "AT 62/SVC 5");
            edge.run(1);
            edge.words(0, asked, HANDLER, 2, 65535);
        }
    }

    private void halt() {
        edge.sentence(PART, "0 HALT: the machine is HALTED (PC stays); no more steps.");
        at40(SUPERVISOR, 0, 64, "SET r1 3/SETT r1/", "HALT");
        edge.looks(6, 0, 7, 3);
        edge.due("run", 1, edge.x.run(edge.g, 5000));
        edge.looks(0, 0, 1, 40, 2, 0, 3, 64, 4, 3, 5, 0, 6, 1, 7, 4, 21, 3);
        edge.words(8, 99, 98);
        edge.due("run of a halted one", 0, edge.x.run(edge.g, 1));
        edge.due("run of a halted one", 0, edge.x.run(edge.g, 5000));
        edge.looks(1, 40, 6, 1, 7, 4);
        at40(SUPERVISOR, 0, 64, FULL, "HALT");
        edge.run(1);
        edge.looks(FULL_KEPT);
        // HALT wants no address: its N may be any.
        at40(SUPERVISOR, 0, 64, "", "WORD 0/WORD 65535");
        edge.run(1);
        edge.looks(1, 40, 6, 1);
        edge.words(8, 99, 98);
    }

    private void statusMode() {
        edge.sentence(PART, "mode (0, else USER)");
        for (int told : new int[] {0, 1, 2, 256, 32768, 65535}) {
            at40(told, 0, 64, "", "SVC 1");
            edge.looks(0, told == 0 ? 0 : 1);
            traps(3, 1);
        }
    }

    private void storedStatus() {
        edge.sentence(PART, "18 SPSW: words N to N + 3 are mode, PC + 2, base, bound.");
        at40(SUPERVISOR, 0, 65535, FULL + "SETT r4/", "SPSW 56/AT 55/WORD 9/WORD 9/WORD 9/WORD 9/WORD 9/WORD 9");
        goesOn(42);
        edge.words(55, 9, 0, 42, 0, 65535, 9);
        edge.looks(4, 4);
        edge.looks(FULL_KEPT);
        at40(SUPERVISOR, 0, 65535, "", "SPSW 60");
        goesOn(42);
        edge.words(59, 0, 0, 42, 0, 65535, -1);
        status(SUPERVISOR, HANDLER, 0, 64, "", "AT 62/SPSW 60");
        goesOn(64);
        edge.words(60, 0, 64, 0, 64);
        at40(SUPERVISOR, 0, 64, "", "SPSW 0");
        goesOn(42);
        edge.words(0, 0, 42, 0, 64, 0);
    }

    private void timerIsSet() {
        edge.sentence(PART, "19 SETT: the timer is a, and has not run out.");
        for (int value : new int[] {0, 1, 65535}) {
            at40(SUPERVISOR, 0, 64, "SET r1 " + value + "/", "SETT r1/GETT r2");
            goesOn(42);
            edge.looks(4, value, 5, 0);
            goesOn(44);
            edge.looks(4, value, 5, 0, 22, value);
        }
        // A timer that runs is set anew: to 0, and it does not run out.
        at40(USER, 0, 64, "SET r1 2/SETT r1/", "SET r3 0/SVC 1/AT 62/SETT r3");
        goesOn(42);
        edge.run(2);
        edge.looks(0, 0, 1, 64, 4, 0, 5, 0);
    }

    private void nothingTyped() {
        edge.sentence("Promise 6 (PART 1)", "65,535 if there is none");
        edge.begin(64, "AT 16/IN r1/IN r2/IN r7/IN r4");
        edge.run(1);
        edge.looks(21, 65535, 9, 0);
        edge.due("type 0", true, edge.x.type(edge.g, 0));
        edge.due("type 255", true, edge.x.type(edge.g, 255));
        edge.run(3);
        edge.looks(22, 0, 27, 255, 24, 65535, 9, 0);
    }

    private void lowestBits() {
        edge.sentence("Promise 9 (PART 1)", "22 OUT: the lowest 8 bits of a go to the console.");
        edge.begin(64, "AT 16/OUT r0/SET r1 255/OUT r1/SET r1 256/OUT r1/SET r1 511/OUT r1/SET r1 65535/OUT r1/SET r1 65280/OUT r1");
        edge.run(11);
        int[] due = {0, 255, 0, 255, 255, 0, -1};
        for (int i = 0; i < due.length; i++) {
            edge.due("output " + i, due[i], edge.x.output(edge.g, i));
        }
        edge.looks(8, 6);
    }

    private void sixteenWords() {
        edge.sentence("Promise 10 (PART 1)", "(16 of them) are block a % 8 of the disk");
        String values = "/AT 100/WORD 1/WORD 2/WORD 3/WORD 4/WORD 5/WORD 6/WORD 7/WORD 8/WORD 9/WORD 10/WORD 11/WORD 12/WORD 13/WORD 14/WORD 15/WORD 16/WORD 17";
        edge.begin(128, "AT 16/PUTB r0 r0 100/GETB r0 r0 51/GETB r0 r0 112" + values);
        edge.run(2);
        edge.words(50, 0, 1, 2);
        edge.words(65, 15, 16, 0);
        edge.words(99, 0, 1);
        edge.words(115, 16, 17);
        edge.due("disk", 1, edge.x.disk(edge.g, 0, 0));
        edge.due("disk", 16, edge.x.disk(edge.g, 0, 15));
        edge.due("the next block", 0, edge.x.disk(edge.g, 1, 0));
        edge.run(1);
        edge.words(111, 12, 1, 2);
        edge.words(126, 15, 16, -1);
    }

    private void blockOfEight() {
        edge.sentence("Promise 10 (PART 1)", "block a % 8 of the disk. 24 PUTB: the block is these.");
        int[][] cases = {{0, 0}, {7, 7}, {8, 0}, {15, 7}, {9, 1}, {32768, 0}, {65535, 7}};
        for (int[] c : cases) {
            at40(SUPERVISOR, 0, 64, "SET r1 " + c[0] + "/", "PUTB r1 r0 40/GETB r1 r0 48");
            goesOn(42);
            for (int block = 0; block < 8; block++) {
                edge.due("block " + block, block == c[1] ? 24 * 64 + 8 : 0, edge.x.disk(edge.g, block, 0));
            }
            goesOn(44);
            edge.words(48, 24 * 64 + 8, 40);
        }
    }

    private void trapOfPc() {
        edge.sentence(PART, "2 with n, if PC is not good (n is PC), or PC + 1 (n is that)");
        for (int asked = SUPERVISOR; asked <= USER; asked++) {
            at40(asked, 0, 42, "", "JUMP 3");
            goesOn(3);
            at40(asked, 0, 41, "", "JUMP 3");
            traps(2, 41);
            at40(asked, 0, 40, "", "JUMP 3");
            traps(2, 40);
            status(asked, 62, 0, 64, "", "AT 62/JUMP 3");
            goesOn(3);
            status(asked, 63, 0, 65535, "", "");
            traps(2, 64);
            status(asked, 64, 0, 65535, "", "");
            traps(2, 64);
            status(asked, 65535, 0, 65535, "", "");
            traps(2, 65535);
            status(asked, 0, 0, 1, "", "");
            traps(2, 1);
            status(asked, 0, 0, 0, "", "");
            traps(2, 0);
        }
    }

    private void noSuchOperation() {
        edge.sentence(PART, "5 with w, if there is no such operation");
        at40(SUPERVISOR, 0, 64, "", "WORD 1599");
        goesOn(42);
        for (int asked = SUPERVISOR; asked <= USER; asked++) {
            for (int none : new int[] {1600, 1663, 32768, 64000, 65535}) {
                at40(asked, 0, 64, "", "WORD " + none);
                traps(5, none);
            }
        }
        at40(USER, 0, 64, "", "WORD 1599");
        traps(1, 1599);
    }

    private void privileged() {
        edge.sentence(PART, "1 with w, if it is 0 or 17 to 24 and the mode is USER");
        for (int operation = 0; operation <= 26; operation++) {
            int w = operation * 64 + 8;
            at40(USER, 0, 64, "SET r1 50/", "WORD " + w + "/WORD 44");
            if (operation == 0 || operation >= 17 && operation <= 24) {
                traps(1, w);
                // Nothing of it was done.
                edge.looks(4, 0, 6, 0, 8, 0, 21, 50);
            } else if (operation == 16) {
                traps(3, 44);
            } else if (operation > 24) {
                traps(5, w);
            } else {
                edge.run(1);
                edge.words(8, 99, 98);
            }
            at40(SUPERVISOR, 0, 64, "SET r1 50/", "WORD " + w + "/WORD 44");
            edge.run(1);
            edge.words(8, operation < 16 || operation > 16 && operation < 25 ? 99 : operation == 16 ? 3 : 5);
        }
        // The lowest and the highest word of each.
        for (int w : new int[] {0, 63, 17 * 64, 24 * 64 + 63}) {
            at40(USER, 0, 64, "", "WORD " + w);
            traps(1, w);
        }
    }

    private void firstAddress() {
        edge.sentence(PART, "n being the first address wanted that is not good (of several the first one in order");
        for (int n = 46; n <= 50; n++) {
            for (String name : new String[] {"LPSW ", "SPSW "}) {
                at40(SUPERVISOR, 0, 50, "", name + n);
                if (n == 46) {
                    edge.run(1);
                    edge.words(8, 99);
                } else {
                    traps(2, 50);
                }
            }
        }
        at40(SUPERVISOR, 0, 50, "", "LPSW 51");
        traps(2, 51);
        for (String name : new String[] {"GETB r1 r0 ", "PUTB r1 r0 "}) {
            at40(SUPERVISOR, 0, 60, "", name + 44);
            goesOn(42);
            at40(SUPERVISOR, 0, 60, "", name + 45);
            traps(2, 60);
            at40(SUPERVISOR, 0, 60, "", name + 59);
            traps(2, 60);
            at40(SUPERVISOR, 0, 60, "", name + 60);
            traps(2, 60);
            at40(SUPERVISOR, 0, 60, "", name + 61);
            traps(2, 61);
        }
    }

    private void nothingElse() {
        edge.sentence(PART, "nothing else is done)");
        String fives = "/AT 48/WORD 5/WORD 5/WORD 5/WORD 5/WORD 5/WORD 5/WORD 5/WORD 5/WORD 5/WORD 5/WORD 5/WORD 5/WORD 5/WORD 5/HALT";
        at40(SUPERVISOR, 0, 64, "PUTB r0 r0 16/", "GETB r0 r0 49" + fives);
        traps(2, 64);
        edge.words(48, 5, 5, 5, 5, 5, 5, 5, 5, 5, 5, 5, 5, 5, 5, 0, 0);
        at40(SUPERVISOR, 0, 64, "", "PUTB r0 r0 49" + fives);
        traps(2, 64);
        for (int i = 0; i < 16; i++) {
            edge.due("disk", 0, edge.x.disk(edge.g, 0, i));
        }
        at40(SUPERVISOR, 0, 61, "", "SPSW 58" + fives);
        traps(2, 61);
        edge.words(58, 5, 5, 5);
        at40(SUPERVISOR, 0, 61, "", "LPSW 58" + fives);
        traps(2, 61);
        at40(USER, 0, 61, "SET r1 7/", "LOAD r1 61" + fives);
        traps(2, 61);
        edge.looks(21, 7);
        at40(USER, 0, 61, "SET r1 7/", "STORE r1 61" + fives);
        traps(2, 61);
        edge.words(61, 5);
    }

    private void nextAddressesGoRound() {
        edge.sentence(PART, "(N + 1, .. go round, too.)");
        // The first one is never good up there, so what comes behind it, going round, is not reached.
        for (int n : new int[] {65533, 65534, 65535}) {
            at40(SUPERVISOR, 0, 65535, "", "LPSW " + n);
            traps(2, n);
            at40(SUPERVISOR, 0, 65535, "", "SPSW " + n);
            traps(2, n);
            at40(SUPERVISOR, 0, 65535, "", "GETB r0 r0 " + n);
            traps(2, n);
            at40(SUPERVISOR, 0, 65535, "SET r1 65535/", "PUTB r0 r1 " + (n + 1) % 65536);
            traps(2, n);
        }
    }

    private void trapOrder() {
        edge.sentence(PART, "TRAPS, the first of these");
        for (int asked = SUPERVISOR; asked <= USER; asked++) {
            at40(asked, 0, 41, "", "WORD 65535");
            traps(2, 41);
            at40(asked, 0, 42, "", "WORD 65535");
            traps(5, 65535);
            at40(asked, 0, 41, "", "SVC 1");
            traps(2, 41);
        }
        at40(USER, 0, 41, "", "HALT");
        traps(2, 41);
        at40(USER, 0, 64, "", "WORD 1600/WORD 65535");
        traps(5, 1600);
        for (String order : new String[] {"LPSW 64", "SPSW 65535", "GETB r0 r0 64", "PUTB r0 r0 64"}) {
            at40(USER, 0, 64, "", order);
            edge.run(1);
            edge.words(8, 1);
            at40(SUPERVISOR, 0, 64, "", order);
            edge.run(1);
            edge.words(8, 2);
        }
    }

    private void trapWords() {
        edge.sentence(PART, "words 0 to 3 of the memory (whatever base and bound) are mode, PC, base, bound");
        for (int asked = SUPERVISOR; asked <= USER; asked++) {
            at40(asked, 0, 42, "", "SVC 7");
            traps(3, 7);
            for (int told : new int[] {2, 65535}) {
                at40(asked, 40, told, "", "SVC 7");
                traps(3, 7);
                edge.words(40, 1024, 7, 0, 0, 0, 0, 0, 0, 0, 0);
            }
            status(asked, 5, 65535, 65535, "", "");
            traps(2, 5);
            status(asked, 5, 64, 0, "", "");
            traps(2, 5);
            status(asked, 65535, 0, 0, "", "");
            traps(2, 65535);
        }
    }

    private void pcOfTrap() {
        edge.sentence(PART, "(of 3 PC + 2; of the others PC)");
        at40(USER, 0, 64, "", "GETT r1");
        traps(1, 20 * 64 + 8);
        edge.words(1, 40);
        at40(USER, 0, 64, "", "LOAD r1 64");
        traps(2, 64);
        edge.words(1, 40);
        at40(USER, 0, 64, "", "SVC 64");
        traps(3, 64);
        edge.words(1, 42);
        at40(USER, 0, 64, "SET r1 1/SETT r1/", "JUMP 50");
        goesOn(50);
        edge.run(1);
        edge.words(8, 4, 0);
        edge.words(1, 50);
        at40(USER, 0, 64, "", "WORD 1600");
        traps(5, 1600);
        edge.words(1, 40);
    }

    private void statusOfTrap() {
        edge.sentence(PART, "then the status is told by words 4 to 7");
        int[][] cases = {{0, 0, 0, 0}, {1, 65535, 65535, 65535}, {2, 16, 0, 64}, {65535, 63, 1, 64}, {0, 65535, 65535, 65535}};
        for (int[] c : cases) {
            edge.begin(64, "AT 4/WORD " + c[0] + "/WORD " + c[1] + "/WORD " + c[2] + "/WORD " + c[3] + "/AT 16/SVC 9");
            edge.run(1);
            edge.looks(0, c[0] == 0 ? 0 : 1, 1, c[1], 2, c[2], 3, c[3]);
            edge.words(0, 0, 18, 0, 64);
            edge.words(4, c);
            edge.words(8, 3, 9, 0);
        }
        // Words 0 to 3 and 8, 9 are written first, and the status is told by what stands in 4 to 7 then.
        edge.begin(64, "AT 16/LPSW 20/HALT/WORD 1/WORD 7/WORD 30/WORD 5");
        edge.run(1);
        edge.looks(0, 1, 1, 7, 2, 30, 3, 5);
        edge.run(1);
        edge.words(0, 1, 7, 30, 5, 0, 0, 0, 0, 2, 7);
        edge.looks(0, 0, 1, 0, 2, 0, 3, 0);
        edge.run(1);
        edge.words(0, 0, 0, 0, 0, 0, 0, 0, 0, 2, 0);
    }

    private void timerBehindTrap() {
        edge.sentence(PART, "With 4 the timer has not run out any more (it is 0).");
        // The trap leads to USER again, at 40: the timer is 0, and does not run out a second time.
        edge.begin(64, "AT 4/WORD 1/WORD 40/WORD 0/WORD 64/AT 16/SET r1 1/SETT r1/LPSW 4/AT 40/ADD r2 r1/JUMP 40");
        edge.run(4);
        edge.looks(0, 1, 1, 42, 4, 0, 5, 1, 22, 1);
        edge.run(1);
        edge.looks(0, 1, 1, 40, 4, 0, 5, 0, 22, 1);
        edge.words(0, 1, 42, 0, 64);
        edge.words(8, 4, 0);
        edge.run(1);
        edge.looks(0, 1, 1, 42, 4, 0, 5, 0, 22, 2);
        edge.run(5000);
        edge.looks(4, 0, 5, 0, 22, 2502);
        // Another trap leaves the timer as it is.
        at40(USER, 0, 64, "SET r1 65535/SETT r1/", "SVC 1");
        traps(3, 1);
        edge.looks(4, 65535, 5, 0);
    }

    private void registersStay() {
        edge.sentence(PART, "Registers stay.");
        for (String order : new String[] {"HALT", "LOAD r1 64", "SVC 1", "WORD 65535", "IN r2", "GETT r3", "LOADX r4 r0 0"}) {
            for (String timer : new String[] {"", "SETT r4/"}) {
                at40(USER, 0, 64, FULL + timer, order);
                edge.looks(FULL_KEPT);
                edge.run(1);
                edge.looks(0, 0, 1, HANDLER, 4, timer.isEmpty() ? 0 : 4);
                edge.looks(FULL_KEPT);
            }
        }
        at40(USER, 0, 64, FULL + "SETT r1/", "JUMP 40");
        edge.run(2);
        edge.words(8, 4);
        edge.looks(FULL_KEPT);
        at40(SUPERVISOR, 0, 64, FULL, "GETB r1 r6 40");
        goesOn(42);
        edge.looks(FULL_KEPT);
        at40(SUPERVISOR, 0, 64, FULL, "LPSW 64");
        traps(2, 64);
        edge.looks(FULL_KEPT);
    }
}
