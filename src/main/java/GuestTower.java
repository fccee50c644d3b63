import java.util.Arrays;

/** Small machines with two modes, bare or under monitors, and an assembler for their programs. */
public final class GuestTower {
    public static final int NONE = -1;

    private static final int REFUSED = -2;
    private static final int GUESTS = 3;
    private static final int LEAST_SIZE = 64;
    private static final int MOST_SIZE = 1024;
    private static final int DEEPEST = 2;
    private static final int MOST_STEPS = 5000;
    private static final int TAPE_LIMIT = 3000;
    private static final int FEED_BYTES = 20;
    private static final int WORD_MASK = 65535;

    private static final int HALT = 0;
    private static final int SET = 1;
    private static final int LOAD = 2;
    private static final int STORE = 3;
    private static final int LOADX = 4;
    private static final int STOREX = 5;
    private static final int MOVE = 6;
    private static final int ADD = 7;
    private static final int SUB = 8;
    private static final int AND = 9;
    private static final int LESS = 10;
    private static final int SHIFT = 11;
    private static final int JUMP = 12;
    private static final int ZERO = 13;
    private static final int GO = 14;
    private static final int CALL = 15;
    private static final int SVC = 16;
    private static final int LPSW = 17;
    private static final int SPSW = 18;
    private static final int SETT = 19;
    private static final int GETT = 20;
    private static final int IN = 21;
    private static final int OUT = 22;
    private static final int GETB = 23;
    private static final int PUTB = 24;

    private final int[] tape;
    private int tapeLength;
    private final Assembler assembler;
    private final Guest[] guests;
    private int latestFault;
    private int latestLine;

    public GuestTower() {
        tape = new int[TAPE_LIMIT];
        tapeLength = 0;
        assembler = new Assembler();
        guests = new Guest[GUESTS];
        latestFault = NONE;
        latestLine = NONE;
    }

    public int feed(int a, int b, int c, int d, int e) {
        if (tapeLength + FEED_BYTES > TAPE_LIMIT) {
            return NONE;
        }
        putOnTape(a);
        putOnTape(b);
        putOnTape(c);
        putOnTape(d);
        putOnTape(e);
        return tapeLength;
    }

    public int load(int g, int size, int depth, int n) {
        if (!isGuest(g) || size < LEAST_SIZE || size > MOST_SIZE) {
            return REFUSED;
        }
        if (depth < 0 || depth > DEEPEST || n < 0 || n > tapeLength) {
            return REFUSED;
        }
        assembler.assemble(tape, n, size);
        tapeLength = 0;
        latestFault = assembler.fault;
        latestLine = assembler.faultLine;
        if (latestFault != 0) {
            return NONE;
        }
        Guest guest = guests[g] == null ? new Guest() : guests[g];
        guest.begin(assembler.words, assembler.here, size, depth);
        guests[g] = guest;
        return assembler.here;
    }

    public int fault(int what) {
        switch (what) {
            case 0: return latestFault;
            case 1: return latestLine;
            default: return NONE;
        }
    }

    public int run(int g, int steps) {
        Guest guest = guestAt(g);
        if (guest == null || steps < 0 || steps > MOST_STEPS) {
            return NONE;
        }
        return guest.advance(steps);
    }

    public boolean type(int g, int b) {
        Guest guest = guestAt(g);
        if (guest == null || b < 0 || b > 255) {
            return false;
        }
        return guest.machine.console.isTaken(b);
    }

    public int look(int g, int what) {
        Guest guest = guestAt(g);
        return guest == null ? NONE : guest.told(what);
    }

    public int word(int g, int address) {
        Guest guest = guestAt(g);
        return guest == null ? NONE : guest.wordAt(address);
    }

    public int output(int g, int i) {
        Guest guest = guestAt(g);
        return guest == null ? NONE : guest.machine.console.sentByte(i);
    }

    public int disk(int g, int block, int i) {
        Guest guest = guestAt(g);
        return guest == null ? NONE : guest.machine.blockWord(block, i);
    }

    private void putOnTape(int number) {
        for (int shift = 24; shift >= 0; shift -= 8) {
            tape[tapeLength] = (number >>> shift) & 255;
            tapeLength++;
        }
    }

    private static boolean isGuest(int g) {
        return g >= 0 && g < GUESTS;
    }

    /** Null when there is no such guest, or none was loaded. */
    private Guest guestAt(int g) {
        return isGuest(g) ? guests[g] : null;
    }

    /**
     * A guest. The machine is a bare one: the guest's own, or that of the outermost monitor, with the other
     * monitor and the guest's memory behind it.
     */
    private static final class Guest {
        // Far more steps of the bare machine than the monitors need for one step of the guest.
        private static final int LONGEST_STEP = 10000;

        private final Machine machine;
        private int size;
        private int depth;
        private int start;
        private int steps;

        Guest() {
            machine = new Machine(DEEPEST * Monitor.LENGTH + MOST_SIZE);
            size = 0;
            depth = 0;
            start = 0;
            steps = 0;
        }

        void begin(int[] words, int length, int newSize, int newDepth) {
            size = newSize;
            depth = newDepth;
            start = newDepth * Monitor.LENGTH;
            steps = 0;
            machine.clear(start + newSize);
            for (int level = 0; level < newDepth; level++) {
                machine.copyIn(Monitor.WORDS, Monitor.LENGTH, level * Monitor.LENGTH);
            }
            machine.copyIn(words, length, start);
            awaitTurn();
        }

        int advance(int wanted) {
            int done = 0;
            while (done < wanted && !machine.halted) {
                machine.step();
                awaitTurn();
                done++;
            }
            steps += done;
            return done;
        }

        private void awaitTurn() {
            for (int i = 0; i < LONGEST_STEP && !isTurn(); i++) {
                machine.step();
            }
        }

        /** Whether the next step of the bare machine is one of the guest's: no monitor is at work. */
        private boolean isTurn() {
            if (depth == 0 || machine.halted) {
                return true;
            }
            if (machine.mode != Machine.USER) {
                return false;
            }
            return depth == 1 || machine.memory[Monitor.MODE] == Machine.USER;
        }

        int told(int what) {
            switch (what) {
                case 0: return mode();
                case 1: return pc();
                case 2: return depth == 0 ? machine.base : kept(Monitor.BASE);
                case 3: return depth == 0 ? machine.bound : kept(Monitor.BOUND);
                case 4: return timer();
                case 5: return machine.ranOut ? 1 : 0;
                case 6: return machine.halted ? 1 : 0;
                case 7: return steps;
                case 8: return machine.console.sent;
                case 9: return machine.console.waiting;
                case 10: return size;
                case 11: return depth;
                default: return machine.register(what - 20);
            }
        }

        private int mode() {
            return depth == 0 ? machine.mode : kept(Monitor.MODE);
        }

        private int pc() {
            // The bare machine halts in the outermost monitor; the guest stands where its last trap was.
            return depth > 0 && machine.halted ? kept(Monitor.TRAP_PC) : machine.pc;
        }

        private int timer() {
            // A guest's supervisor runs in user mode, so its monitor keeps the timer from falling.
            return depth > 0 && mode() == Machine.SUPERVISOR ? kept(Monitor.TIMER) : machine.timer;
        }

        /** A word of the monitor right ahead of the guest's memory. */
        private int kept(int address) {
            int place = start - Monitor.LENGTH + address;
            return place < 0 ? NONE : machine.memory[place];
        }

        int wordAt(int address) {
            return address < 0 || address >= size ? NONE : machine.memory[start + address];
        }
    }

    /** The program that gives a guest a machine: src/main/monitor/monitor.asm, assembled. */
    private static final class Monitor {
        private static final int TRAP_PC = 1;
        private static final int MODE = 10;
        private static final int BASE = 11;
        private static final int BOUND = 12;
        private static final int TIMER = 13;
        private static final int LENGTH = 410;
        private static final int[] WORDS = {
            0, 0, 0, 0, 0, 36, 0, 65535, 0, 0, 0, 0, 0, 0, 0, 0,
            1152, 0, 128, 3, 72, 410, 513, 0, 192, 403, 192, 12, 192, 409, 64, 0,
            72, 0, 1088, 406, 192, 395, 200, 396, 208, 397, 216, 398, 224, 399, 128, 10,
            832, 162, 192, 410, 136, 1, 200, 411, 136, 11, 200, 412, 136, 12, 200, 413,
            136, 8, 200, 418, 136, 9, 200, 419, 72, 414, 273, 1, 208, 407, 273, 2,
            208, 11, 281, 3, 216, 12, 265, 0, 96, 410, 482, 0, 224, 408, 160, 403,
            660, 0, 848, 134, 144, 11, 546, 0, 404, 0, 659, 0, 848, 112, 412, 0,
            216, 409, 840, 146, 72, 1, 200, 10, 832, 138, 128, 395, 136, 396, 144, 397,
            152, 398, 160, 399, 1088, 406, 88, 0, 768, 112, 136, 13, 840, 122, 1224, 0,
            768, 122, 200, 10, 832, 122, 1288, 0, 200, 13, 840, 122, 72, 0, 1224, 0,
            768, 122, 136, 8, 80, 1, 522, 0, 840, 172, 768, 50, 136, 9, 712, 22,
            265, 370, 904, 0, 128, 395, 136, 396, 144, 397, 152, 398, 160, 399, 0, 0,
            80, 0, 96, 3, 984, 328, 64, 0, 768, 74, 80, 0, 96, 3, 984, 328,
            80, 0, 337, 0, 144, 1, 88, 2, 467, 0, 337, 1, 144, 11, 337, 2,
            144, 12, 337, 3, 768, 276, 984, 286, 273, 395, 208, 13, 768, 276, 984, 286,
            144, 13, 768, 248, 984, 286, 1360, 0, 337, 395, 168, 400, 176, 401, 184, 402,
            768, 276, 984, 286, 273, 395, 1424, 0, 768, 276, 984, 302, 1489, 0, 768, 276,
            984, 302, 1553, 0, 136, 1, 80, 2, 458, 0, 200, 407, 768, 122, 232, 400,
            240, 401, 248, 402, 136, 9, 712, 19, 80, 7, 586, 0, 920, 0, 216, 404,
            984, 286, 273, 395, 208, 405, 144, 9, 96, 7, 596, 0, 274, 395, 96, 15,
            984, 328, 144, 405, 152, 404, 920, 0, 136, 408, 128, 1, 456, 0, 265, 1,
            458, 0, 144, 409, 385, 0, 642, 0, 832, 360, 481, 0, 674, 0, 864, 358,
            144, 408, 458, 0, 920, 0, 394, 0, 200, 9, 72, 2, 200, 8, 64, 0,
            768, 50, 180, 0, 0, 0, 0, 0, 0, 0, 0, 0, 0, 0, 0, 0,
            0, 0, 0, 192, 202, 230, 238, 244, 258, 266, 272, 0, 0, 0, 0, 0,
            0, 0, 0, 0, 0, 0, 1, 16, 410, 0
        };
    }

    /** A bare machine. */
    private static final class Machine {
        private static final int SUPERVISOR = 0;
        private static final int USER = 1;
        private static final int PRIVILEGED = 1;
        private static final int BAD_ADDRESS = 2;
        private static final int SERVICE = 3;
        private static final int TIME = 4;
        private static final int NO_OPERATION = 5;
        private static final int FIRST_PC = 16;
        private static final int OLD_STATUS = 0;
        private static final int NEW_STATUS = 4;
        private static final int CAUSE = 8;
        private static final int WITH = 9;
        private static final int REGISTERS = 8;
        private static final int STATUS_WORDS = 4;
        private static final int BLOCKS = 8;
        private static final int BLOCK_WORDS = 16;

        private final int[] memory;
        private final int[] registers;
        private final int[] blocks;
        private final Console console;
        private int size;
        private int mode;
        private int pc;
        private int base;
        private int bound;
        // The good addresses are those below it: up to the bound, or to the memory's end.
        private int reach;
        private int timer;
        private boolean ranOut;
        private boolean halted;

        Machine(int most) {
            memory = new int[most];
            registers = new int[REGISTERS];
            blocks = new int[BLOCKS * BLOCK_WORDS];
            console = new Console();
            size = most;
        }

        void clear(int newSize) {
            Arrays.fill(memory, 0);
            Arrays.fill(registers, 0);
            Arrays.fill(blocks, 0);
            console.clear();
            size = newSize;
            mode = SUPERVISOR;
            pc = FIRST_PC;
            base = 0;
            bound = newSize;
            reach = newSize;
            timer = 0;
            ranOut = false;
            halted = false;
        }

        void copyIn(int[] words, int length, int start) {
            for (int i = 0; i < length && i < words.length && start + i < size; i++) {
                memory[start + i] = words[i];
            }
        }

        int register(int number) {
            return number < 0 || number >= REGISTERS ? NONE : registers[number];
        }

        int blockWord(int block, int i) {
            if (block < 0 || block >= BLOCKS || i < 0 || i >= BLOCK_WORDS) {
                return NONE;
            }
            return blocks[block * BLOCK_WORDS + i];
        }

        /** A step of a machine that is not halted. Sums of PC need not go round: no good address is so high. */
        void step() {
            if (mode == USER && ranOut) {
                ranOut = false;
                trap(TIME, 0, pc);
                return;
            }
            if (pc + 1 >= reach) {
                trap(BAD_ADDRESS, pc < reach ? pc + 1 : pc, pc);
                return;
            }
            int first = memory[base + pc];
            int n = memory[base + pc + 1];
            int operation = first >> 6;
            int a = (first >> 3) & 7;
            int b = first & 7;
            if (operation > PUTB) {
                trap(NO_OPERATION, first, pc);
            } else if (operation >= LOAD && operation <= STOREX) {
                access(operation, a, operation < LOADX ? n : (registers[b] + n) & WORD_MASK);
            } else if (operation > HALT && operation < SVC) {
                compute(operation, a, b, n);
            } else if (operation == SVC) {
                trap(SERVICE, n, pc + 2);
            } else if (mode == USER) {
                trap(PRIVILEGED, first, pc);
            } else {
                govern(operation, a, b, n);
            }
        }

        private void access(int operation, int a, int address) {
            if (address >= reach) {
                trap(BAD_ADDRESS, address, pc);
                return;
            }
            if (operation == LOAD || operation == LOADX) {
                registers[a] = memory[base + address];
            } else {
                memory[base + address] = registers[a];
            }
            goOn(pc + 2);
        }

        private void compute(int operation, int a, int b, int n) {
            int next = pc + 2;
            switch (operation) {
                case SET: registers[a] = n; break;
                case MOVE: registers[a] = registers[b]; break;
                case ADD: registers[a] = (registers[a] + registers[b]) & WORD_MASK; break;
                case SUB: registers[a] = (registers[a] - registers[b]) & WORD_MASK; break;
                case AND: registers[a] = registers[a] & registers[b]; break;
                case LESS: registers[a] = registers[a] < registers[b] ? 1 : 0; break;
                case SHIFT: registers[a] = shifted(registers[a], n); break;
                case JUMP: next = n; break;
                case ZERO: next = registers[a] == 0 ? n : next; break;
                case GO: next = registers[a]; break;
                case CALL: registers[a] = next; next = n; break;
                default: break;
            }
            goOn(next);
        }

        private void goOn(int next) {
            pc = next;
            if (mode == USER && timer > 0) {
                timer--;
                ranOut = timer == 0;
            }
        }

        /** What the supervisor alone may do, so that the timer stands. */
        private void govern(int operation, int a, int b, int n) {
            int address = operation < GETB ? n : (registers[b] + n) & WORD_MASK;
            int bad = firstBad(address, wordsWanted(operation));
            if (bad != NONE) {
                trap(BAD_ADDRESS, bad, pc);
                return;
            }
            int place = base + address;
            int block = (registers[a] & 7) * BLOCK_WORDS;
            int next = pc + 2;
            switch (operation) {
                case HALT: halted = true; return;
                case LPSW: takeStatus(place); return;
                case SPSW: keepStatus(place, next); break;
                case SETT: timer = registers[a]; ranOut = false; break;
                case GETT: registers[a] = timer; break;
                case IN: registers[a] = console.nextTyped(); break;
                case OUT: console.send(registers[a] & 255); break;
                case GETB: System.arraycopy(blocks, block, memory, place, BLOCK_WORDS); break;
                case PUTB: System.arraycopy(memory, place, blocks, block, BLOCK_WORDS); break;
                default: break;
            }
            pc = next;
        }

        private static int wordsWanted(int operation) {
            switch (operation) {
                case LPSW:
                case SPSW: return STATUS_WORDS;
                case GETB:
                case PUTB: return BLOCK_WORDS;
                default: return 0;
            }
        }

        private void trap(int cause, int with, int kept) {
            keepStatus(OLD_STATUS, kept);
            memory[CAUSE] = cause;
            memory[WITH] = with;
            takeStatus(NEW_STATUS);
        }

        private void keepStatus(int place, int kept) {
            memory[place] = mode;
            memory[place + 1] = kept;
            memory[place + 2] = base;
            memory[place + 3] = bound;
        }

        private void takeStatus(int place) {
            mode = memory[place] == 0 ? SUPERVISOR : USER;
            pc = memory[place + 1];
            base = memory[place + 2];
            bound = memory[place + 3];
            reach = base + bound < size ? bound : size - base;
        }

        private int firstBad(int address, int count) {
            for (int i = 0; i < count; i++) {
                int wanted = (address + i) & WORD_MASK;
                if (wanted >= reach) {
                    return wanted;
                }
            }
            return NONE;
        }

        private static int shifted(int value, int n) {
            int times = n & 15;
            return (n & 16) == 0 ? (value << times) & WORD_MASK : value >> times;
        }
    }

    /** What was typed and waits, and what was sent. */
    private static final class Console {
        private static final int TYPED_LIMIT = 100;
        private static final int SENT_LIMIT = 500;

        private final int[] typed;
        private final int[] sentBytes;
        private int oldest;
        private int waiting;
        private int sent;

        Console() {
            typed = new int[TYPED_LIMIT];
            sentBytes = new int[SENT_LIMIT];
        }

        void clear() {
            oldest = 0;
            waiting = 0;
            sent = 0;
        }

        boolean isTaken(int b) {
            if (waiting >= TYPED_LIMIT) {
                return false;
            }
            typed[(oldest + waiting) % TYPED_LIMIT] = b;
            waiting++;
            return true;
        }

        int nextTyped() {
            if (waiting == 0) {
                return WORD_MASK;
            }
            int b = typed[oldest];
            oldest = (oldest + 1) % TYPED_LIMIT;
            waiting--;
            return b;
        }

        void send(int b) {
            // Behind very many calls the count has gone round and may be below 0.
            if (sent >= 0 && sent < SENT_LIMIT) {
                sentBytes[sent] = b;
            }
            sent++;
        }

        int sentByte(int i) {
            return i < 0 || i >= sent || i >= SENT_LIMIT ? NONE : sentBytes[i];
        }
    }

    /** Makes the words of a program of a text, or tells its first fault. */
    private static final class Assembler {
        private static final int NO_SUCH_LINE = 1;
        private static final int LABEL_AGAIN = 2;
        private static final int TOO_MANY_LABELS = 3;
        private static final int BEYOND_MEMORY = 4;
        private static final int LABEL_NOWHERE = 5;
        private static final int LABEL_LIMIT = 100;
        private static final int NEW_LINE = 10;

        private final int[] words;
        private int here;
        private int fault;
        private int faultLine;
        private final Line line;
        private final long[] labels;
        private final int[] labelAddresses;
        private int labelCount;
        private final long[] useLabels;
        private final int[] useAddresses;
        private final int[] useLines;
        private int useCount;

        Assembler() {
            words = new int[MOST_SIZE];
            line = new Line();
            labels = new long[LABEL_LIMIT];
            labelAddresses = new int[LABEL_LIMIT];
            useLabels = new long[MOST_SIZE];
            useAddresses = new int[MOST_SIZE];
            useLines = new int[MOST_SIZE];
        }

        void assemble(int[] text, int n, int size) {
            here = 0;
            fault = 0;
            faultLine = 0;
            labelCount = 0;
            useCount = 0;
            int start = 0;
            // Each line takes a byte at least, so there are no more lines than bytes.
            for (int number = 1; number <= n && start < n && fault == 0; number++) {
                int end = lineEnd(text, start, n);
                boolean isLine = line.isReadFrom(text, start, end);
                tellFault(isLine ? faultOfLine(size) : NO_SUCH_LINE, number);
                if (fault == 0) {
                    placeLine(number);
                }
                start = end + 1;
            }
            if (fault == 0) {
                fillUses();
            }
        }

        private static int lineEnd(int[] text, int start, int n) {
            int end = start;
            while (end < n && text[end] != NEW_LINE) {
                end++;
            }
            return end;
        }

        private void tellFault(int kind, int number) {
            if (kind != 0) {
                fault = kind;
                faultLine = number;
            }
        }

        private int faultOfLine(int size) {
            if (line.order == Line.AT && line.number < here) {
                return NO_SUCH_LINE;
            }
            if (line.label != Line.NO_LABEL) {
                if (addressOf(line.label) != NONE) {
                    return LABEL_AGAIN;
                }
                if (labelCount >= LABEL_LIMIT) {
                    return TOO_MANY_LABELS;
                }
            }
            return lineBehind() > size ? BEYOND_MEMORY : 0;
        }

        private int lineBehind() {
            switch (line.order) {
                case Line.NO_ORDER: return here;
                case Line.WORD: return here + 1;
                case Line.SPACE: return here + line.number;
                case Line.AT: return line.number;
                default: return here + 2;
            }
        }

        private void placeLine(int number) {
            if (line.label != Line.NO_LABEL) {
                labels[labelCount] = line.label;
                labelAddresses[labelCount] = here;
                labelCount++;
            }
            int behind = lineBehind();
            if (line.isInstruction()) {
                words[here] = line.order * 64 + line.a * 8 + line.b;
                placeNumber(here + 1, number);
            } else if (line.order == Line.WORD) {
                placeNumber(here, number);
            } else {
                clearWords(behind);
            }
            here = behind;
        }

        private void clearWords(int behind) {
            for (int i = here; i < behind; i++) {
                words[i] = 0;
            }
        }

        private void placeNumber(int address, int lineNumber) {
            words[address] = line.number;
            if (line.wanted != Line.NO_LABEL) {
                useLabels[useCount] = line.wanted;
                useAddresses[useCount] = address;
                useLines[useCount] = lineNumber;
                useCount++;
            }
        }

        private void fillUses() {
            for (int i = 0; i < useCount && fault == 0; i++) {
                int target = addressOf(useLabels[i]);
                if (target == NONE) {
                    tellFault(LABEL_NOWHERE, useLines[i]);
                } else {
                    int address = useAddresses[i];
                    words[address] = (words[address] + target) & WORD_MASK;
                }
            }
        }

        private int addressOf(long label) {
            for (int i = 0; i < labelCount; i++) {
                if (labels[i] == label) {
                    return labelAddresses[i];
                }
            }
            return NONE;
        }
    }

    /** One line of a text, taken apart. */
    private static final class Line {
        private static final long NO_LABEL = 0;
        private static final int NO_ORDER = -1;
        private static final int WORD = 25;
        private static final int SPACE = 26;
        private static final int AT = 27;
        private static final int ORDERS = 28;
        private static final int NAME_WIDTH = 6;
        private static final String NAMES = "HALT  SET   LOAD  STORE LOADX STOREXMOVE  ADD   SUB   AND   LESS  SHIFT JUMP  ZERO  GO    CALL  SVC   LPSW  SPSW  SETT  GETT  IN    OUT   GETB  PUTB  WORD  SPACE AT    ";

        private static final int WANTS_A = 1;
        private static final int WANTS_B = 2;
        private static final int WANTS_N = 4;
        private static final int WANTS_PLAIN_N = 8;

        /** What each order wants, in the order of the names. */
        private static final int[] WANTS = {
            0, 5, 5, 5, 7, 7, 3, 3, 3, 3, 3, 5, 4, 5, 1, 5, 4, 4, 4, 1, 1, 1, 1, 7, 7, 4, 8, 8
        };

        private static final int LABEL_LENGTH = 8;
        private static final int NUMBER_LENGTH = 5;
        private static final int BLANK = 32;
        private static final int LAST_BYTE = 126;

        private int[] text;
        private int at;
        private int end;
        private long label;
        private int order;
        private int a;
        private int b;
        private int number;
        private long wanted;

        Line() {
            text = new int[0];
        }

        boolean isInstruction() {
            return order >= 0 && order < WORD;
        }

        boolean isReadFrom(int[] bytes, int start, int behind) {
            text = bytes;
            at = start;
            end = behind;
            label = NO_LABEL;
            order = NO_ORDER;
            a = 0;
            b = 0;
            number = 0;
            wanted = NO_LABEL;
            if (!hasGoodBytes()) {
                return false;
            }
            dropRemark();
            return isLabelRead() && isOrderRead();
        }

        private boolean hasGoodBytes() {
            for (int i = at; i < end; i++) {
                if (text[i] < BLANK || text[i] > LAST_BYTE) {
                    return false;
                }
            }
            return true;
        }

        private void dropRemark() {
            for (int i = at; i < end; i++) {
                if (text[i] == ';') {
                    end = i;
                    return;
                }
            }
        }

        private boolean isLabelRead() {
            skipBlanks();
            if (!isLetter(here())) {
                return true;
            }
            label = takeLabel();
            if (label == NO_LABEL || here() != ':') {
                return false;
            }
            at++;
            return true;
        }

        private boolean isOrderRead() {
            skipBlanks();
            if (at == end) {
                return true;
            }
            order = takeOrder();
            if (order == NO_ORDER) {
                return false;
            }
            int wants = WANTS[order];
            if ((wants & WANTS_A) != 0) {
                a = takeRegister();
            }
            if ((wants & WANTS_B) != 0) {
                b = takeRegister();
            }
            if (a == NONE || b == NONE) {
                return false;
            }
            if (wants >= WANTS_N && !isNumberRead(wants)) {
                return false;
            }
            skipBlanks();
            return at == end;
        }

        private int takeOrder() {
            int start = at;
            while (at < end && text[at] >= 'A' && text[at] <= 'Z') {
                at++;
            }
            for (int i = 0; i < ORDERS; i++) {
                if (isNamed(i, start, at - start)) {
                    return i;
                }
            }
            return NO_ORDER;
        }

        private boolean isNamed(int i, int start, int length) {
            if (length > NAME_WIDTH) {
                return false;
            }
            for (int k = 0; k < NAME_WIDTH; k++) {
                int found = k < length ? text[start + k] : BLANK;
                if (NAMES.charAt(i * NAME_WIDTH + k) != found) {
                    return false;
                }
            }
            return true;
        }

        private int takeRegister() {
            if (here() != BLANK) {
                return NONE;
            }
            skipBlanks();
            if (here() != 'r') {
                return NONE;
            }
            at++;
            int digit = here();
            if (digit < '0' || digit > '7') {
                return NONE;
            }
            at++;
            return digit - '0';
        }

        private boolean isNumberRead(int wants) {
            if (here() != BLANK) {
                return false;
            }
            skipBlanks();
            boolean isPlain = (wants & WANTS_PLAIN_N) != 0 || !isLetter(here());
            if (!isPlain) {
                wanted = takeLabel();
                if (wanted == NO_LABEL) {
                    return false;
                }
                if (here() != '+') {
                    return true;
                }
                at++;
            }
            number = takeNumber();
            return number != NONE;
        }

        private int takeNumber() {
            int value = 0;
            int digits = 0;
            while (at < end && isDigit(text[at]) && digits <= NUMBER_LENGTH) {
                value = value * 10 + text[at] - '0';
                digits++;
                at++;
            }
            return digits == 0 || digits > NUMBER_LENGTH || value > WORD_MASK ? NONE : value;
        }

        /** A label as one number, so that labels are compared at once; NO_LABEL if it is too long. */
        private long takeLabel() {
            long code = 0;
            int length = 0;
            while (at < end && (isLetter(text[at]) || isDigit(text[at]))) {
                code = code * 37 + (isLetter(text[at]) ? text[at] - 'a' + 1 : text[at] - '0' + 27);
                length++;
                at++;
            }
            return length > LABEL_LENGTH ? NO_LABEL : code;
        }

        private void skipBlanks() {
            while (at < end && text[at] == BLANK) {
                at++;
            }
        }

        private int here() {
            return at < end ? text[at] : NONE;
        }

        private static boolean isLetter(int b) {
            return b >= 'a' && b <= 'z';
        }

        private static boolean isDigit(int b) {
            return b >= '0' && b <= '9';
        }
    }
}
