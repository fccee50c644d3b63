/** The boundary cases of the calls themselves and of PART 3, the guests: one test for each sentence that names one. */
public final class EdgesOfCallsTest {
    private static final String LOOP = "AT 16/JUMP 16";

    private final Edge edge = new Edge("EdgesOfCallsTest");

    public static void main(String[] args) {
        EdgesOfCallsTest test = new EdgesOfCallsTest();
        test.newObject();
        test.feed();
        for (int depth = 0; depth < 3; depth++) {
            for (int g = 0; g < 3; g++) {
                test.edge.depth = depth;
                test.edge.g = g;
                test.ofOneGuest();
            }
        }
        test.depthIsNotSeen();
        test.edge.end();
    }

    private void ofOneGuest() {
        callsToTheLast();
        guestsToTwo();
        sizes();
        depths();
        firstBytes();
        emptyThen();
        behindLastLine();
        anew();
        latestLoad();
        faultOfNone();
        steps();
        tillHalted();
        noneLoaded();
        bytesTyped();
        hundredWait();
        looks();
        stepsInAll();
        words();
        outputs();
        disk();
    }

    private void newObject() {
        edge.sentence("Promise 1", "No guests.");
        edge.due("NONE", -1, GuestTower.NONE);
        for (int g = -1; g <= 3; g++) {
            noGuest(g);
        }
        edge.due("fault(0)", -1, edge.x.fault(0));
        edge.due("fault(1)", -1, edge.x.fault(1));
        edge.due("an empty tape", -2, edge.x.load(0, 64, 0, 1));
        // Another object's guests are not here.
        edge.sentence("Promise 1", "No guests.");
        Tower other = new Tower();
        other.loadText(0, 64, 0, "WORD 1");
        other.feedText("WORD 1");
        noGuest(0);
        edge.due("an empty tape", -2, edge.x.load(0, 64, 0, 1));
    }

    private void noGuest(int g) {
        edge.due("run " + g, -1, edge.x.run(g, 0));
        edge.due("type " + g, false, edge.x.type(g, 1));
        for (int what : new int[] {0, 1, 3, 7, 10, 11, 20, 27}) {
            edge.due("look " + g + " " + what, -1, edge.x.look(g, what));
        }
        edge.due("word " + g, -1, edge.x.word(g, 0));
        edge.due("output " + g, -1, edge.x.output(g, 0));
        edge.due("disk " + g, -1, edge.x.disk(g, 0, 0));
    }

    private void feed() {
        edge.sentence("Promise 2", "Twenty bytes come behind those on the tape: four of each number, the highest first: how many there are.");
        edge.due("the first feed", 20, edge.x.feed(0x574F5244, 0x20310A57, 0x4F524420, 0x320A574F, 0x52442033));
        edge.due("the second feed", 40, edge.x.feed(0x34353B20, 0x7E7E7E7E, 0x0A0A0A0A, 0x20202020, Edge.LEAST));
        edge.due("load", 3, edge.x.load(0, 64, 0, 36));
        edge.words(0, 1, 2, 345, 0);
        // The highest byte of a number below 0 is 128 or above: no byte of a text.
        for (int number : new int[] {Edge.LEAST, -1, Edge.MOST, 0, 0x0A0A0A00, 0x7F202020, 0x200A0A0A}) {
            edge.sentence("Promise 2", "four of each number, the highest first");
            edge.x.feed(number, 0x20202020, 0x20202020, 0x20202020, 0x20202020);
            boolean isText = number == 0x200A0A0A;
            edge.due("load", isText ? 0 : -1, edge.x.load(0, 64, 0, 20));
            edge.due("fault of " + number, isText ? 0 : 1, edge.x.fault(0));
            edge.due("line of " + number, isText ? 0 : number == 0x0A0A0A00 ? 4 : 1, edge.x.fault(1));
        }
        edge.sentence("Promise 2", "NONE when there would be more than 3,000.");
        for (int i = 1; i <= 149; i++) {
            edge.due("feed", 20 * i, edge.x.feed(0x20202020, 0x20202020, 0x20202020, 0x20202020, 0x20202020));
        }
        edge.due("the 150th feed", 3000, edge.x.feed(0x20202020, 0x20202020, 0x20202020, 0x20202020, 0x20202058));
        edge.due("the 151st feed", -1, edge.x.feed(0x20202020, 0x20202020, 0x20202020, 0x20202020, 0x20202020));
        edge.due("load of all, the last byte a fault", -1, edge.x.load(0, 64, 0, 3000));
    }

    private void callsToTheLast() {
        edge.sentence("What it is", "An object is used for at most 512 calls after it has been made");
        edge.begin(64, LOOP);
        int runs = edge.x.callsLeft() - 2;
        for (int i = 0; i < runs; i++) {
            edge.due("run", 5000, edge.x.run(edge.g, 5000));
        }
        edge.looks(7, runs * 5000);
        edge.due("calls left", 1, edge.x.callsLeft());
        edge.due("the 512th call", 20, edge.x.feed(0, 0, 0, 0, 0));
    }

    private void guestsToTwo() {
        edge.sentence("Promise 3 (PART 3)", "GUESTS 0 to 2.");
        edge.begin(64, "WORD 5");
        edge.looks(10, 64, 11, edge.depth);
        for (int other = -1; other <= 3; other++) {
            if (other != edge.g) {
                noGuest(other);
            }
        }
        for (int none : new int[] {-1, 3, Edge.LEAST, Edge.MOST}) {
            edge.due("load of guest " + none, -2, edge.x.load(none, 64, edge.depth, 0));
        }
        for (int there = 0; there <= 2; there++) {
            edge.due("load of guest " + there, 0, edge.x.load(there, 64, edge.depth, 0));
        }
    }

    private void sizes() {
        edge.sentence("Promise 3 (PART 3)", "A guest has a memory's size (64 to 1,024)");
        for (int size : new int[] {63, 1025, 0, -1, Edge.LEAST, Edge.MOST}) {
            edge.due("load of size " + size, -2, edge.x.load(edge.g, size, edge.depth, 0));
            edge.looks(10, -1);
        }
        for (int size : new int[] {64, 65, 1023, 1024}) {
            edge.due("load of size " + size, 0, edge.x.load(edge.g, size, edge.depth, 0));
            edge.looks(10, size, 3, size);
            edge.words(size - 1, 0, -1);
        }
    }

    private void depths() {
        edge.sentence("Promise 3 (PART 3)", "and a DEPTH: with 0 it is a bare machine; with 1 (2) it runs under a monitor (that runs under a monitor).");
        for (int depth : new int[] {-1, 3, Edge.LEAST, Edge.MOST}) {
            edge.due("load of depth " + depth, -2, edge.x.load(edge.g, 64, depth, 0));
            edge.looks(11, -1);
        }
        for (int depth = 0; depth <= 2; depth++) {
            edge.due("load of depth " + depth, 0, edge.x.load(edge.g, 64, depth, 0));
            edge.looks(11, depth);
        }
    }

    private void depthIsNotSeen() {
        edge.sentence("Promise 5 (PART 3)", "DEPTH is seen in nothing but what it costs.");
        // Each step of this one is a trap; the other one looks for the memory's end, and for its own mode.
        String[] texts = {"AT 16/SVC 1", "AT 4/WORD 0/WORD 26/WORD 0/WORD 64/AT 16/SET r2 1/LOADX r3 r1 0/ADD r1 r2/JUMP 18/AT 26/SPSW 40/GETT r5/HALT"};
        for (String text : texts) {
            edge.sentence("Promise 5 (PART 3)", "DEPTH is seen in nothing but what it costs.");
            for (int g = 0; g < 3; g++) {
                edge.x.loadText(g, 64, g, Desk.lines(text));
            }
            for (int part = 0; part < 3; part++) {
                int done = edge.x.run(0, 500);
                edge.due("run of depth 1", done, edge.x.run(1, 500));
                edge.due("run of depth 2", done, edge.x.run(2, 500));
            }
            for (int what = 0; what < 28; what++) {
                int told = edge.x.look(0, what);
                edge.due("look " + what + " of depth 1", what == 11 ? 1 : told, edge.x.look(1, what));
                edge.due("look " + what + " of depth 2", what == 11 ? 2 : told, edge.x.look(2, what));
            }
            for (int i = 0; i <= 64; i++) {
                int told = edge.x.word(0, i);
                edge.due("word " + i + " of depth 1", told, edge.x.word(1, i));
                edge.due("word " + i + " of depth 2", told, edge.x.word(2, i));
            }
        }
        edge.due("the first bad address", 64, edge.x.look(2, 21));
    }

    private void firstBytes() {
        edge.sentence("Promise 3", "The first n bytes of the tape (which is empty then) are assembled");
        String text = "WORD 1\nWORD 23\nx";
        int[][] cases = {{0, 0}, {1, -1}, {5, -1}, {6, 1}, {7, 1}, {13, 2}, {14, 2}, {15, 2}, {16, -1}, {17, -1}, {20, -1}, {21, -2}};
        for (int[] c : cases) {
            edge.x = new Tower();
            edge.x.feedText(text);
            edge.due("load of " + c[0] + " bytes", c[1], edge.x.load(edge.g, 64, edge.depth, c[0]));
            if (c[1] >= 0) {
                edge.words(0, c[1] > 0 ? 1 : 0, c[1] < 2 ? 0 : c[0] == 13 ? 2 : 23);
            }
        }
    }

    private void emptyThen() {
        edge.sentence("Promise 3", "(which is empty then)");
        edge.x.feedText("WORD 1\nx");
        edge.due("load of some of it", 1, edge.x.load(edge.g, 64, edge.depth, 6));
        edge.due("load of what was behind", -2, edge.x.load(edge.g, 64, edge.depth, 1));
        edge.due("feed", 20, edge.x.feedText("WORD 2"));
        edge.due("load of the new bytes", 1, edge.x.load(edge.g, 64, edge.depth, 6));
        edge.words(0, 2);
        edge.x.feedText("x");
        edge.due("a fault", -1, edge.x.load(edge.g, 64, edge.depth, 1));
        edge.due("empty behind a fault, too", -2, edge.x.load(edge.g, 64, edge.depth, 1));
        edge.due("feed", 20, edge.x.feedText("WORD 3"));
        edge.due("not empty behind a -2", -2, edge.x.load(edge.g, 64, edge.depth, 21));
        edge.due("feed", 40, edge.x.feedText("WORD 4"));
        edge.due("load of none of it", 0, edge.x.load(edge.g, 64, edge.depth, 0));
        edge.due("empty behind that", 20, edge.x.feedText("WORD 5"));
    }

    private void behindLastLine() {
        edge.sentence("Promise 3", "the address behind the last line");
        edge.good(64, 0, "");
        edge.good(64, 0, "a:\n;\n");
        edge.good(64, 1, "WORD 1\n\na:");
        edge.good(64, 64, "AT 64");
        edge.good(1024, 1024, "SPACE 1024\n");
        edge.good(1024, 1024, "AT 1022\nHALT");
    }

    private void anew() {
        edge.sentence("Promise 3", "guest g (anew) begins with them, that memory, that depth");
        edge.begin(1024, "AT 16/SET r1 9/HALT/AT 1023/WORD 9");
        edge.due("type", true, edge.x.type(edge.g, 1));
        edge.due("run", 2, edge.x.run(edge.g, 5000));
        edge.looks(1, 18, 6, 1, 9, 1, 21, 9);
        edge.due("load", 1, edge.x.loadText(edge.g, 64, 2 - edge.depth, "WORD 7"));
        edge.looks(0, 0, 1, 16, 2, 0, 3, 64, 4, 0, 5, 0, 6, 0, 7, 0, 8, 0, 9, 0, 10, 64, 11, 2 - edge.depth, 21, 0);
        edge.words(0, 7, 0);
        edge.words(16, 0, 0);
        edge.words(63, 0, -1);
        edge.due("load", 0, edge.x.load(edge.g, 1024, edge.depth, 0));
        edge.words(1023, 0, -1);
    }

    private void latestLoad() {
        edge.sentence("Promise 4", "Of the latest load() that was no -2: what 0: the fault (0 none), 1: its line (0 without one).");
        edge.due("-2", -2, edge.x.load(edge.g, 63, edge.depth, 0));
        edge.due("fault(0) ahead of any", -1, edge.x.fault(0));
        edge.due("fault(1) ahead of any", -1, edge.x.fault(1));
        edge.due("a fault", -1, edge.x.loadText(edge.g, 64, edge.depth, "\nx"));
        edge.due("fault(0)", 1, edge.x.fault(0));
        edge.due("fault(1)", 2, edge.x.fault(1));
        edge.due("-2", -2, edge.x.load(edge.g, 64, edge.depth, 1));
        edge.due("fault(0) behind a -2", 1, edge.x.fault(0));
        edge.due("fault(1) behind a -2", 2, edge.x.fault(1));
        edge.due("no fault", 0, edge.x.load(edge.g, 64, edge.depth, 0));
        edge.due("fault(0) of none", 0, edge.x.fault(0));
        edge.due("fault(1) of none", 0, edge.x.fault(1));
        edge.due("-2", -2, edge.x.load(3, 64, edge.depth, 0));
        edge.due("fault(0) behind a -2", 0, edge.x.fault(0));
        edge.due("another guest's fault", -1, edge.x.loadText((edge.g + 1) % 3, 64, edge.depth, "SPACE 65"));
        edge.due("fault(0)", 4, edge.x.fault(0));
        edge.due("fault(1)", 1, edge.x.fault(1));
    }

    private void faultOfNone() {
        edge.sentence("Promise 4", "NONE for others, or ahead of any.");
        for (int what : new int[] {-1, 0, 1, 2, Edge.LEAST, Edge.MOST}) {
            edge.due("fault(" + what + ") ahead of any", -1, edge.x.fault(what));
        }
        edge.x.loadText(edge.g, 64, edge.depth, "x");
        for (int what : new int[] {-1, 0, 1, 2, Edge.LEAST, Edge.MOST}) {
            edge.due("fault(" + what + ")", what == 0 || what == 1 ? 1 : -1, edge.x.fault(what));
        }
    }

    private void steps() {
        edge.sentence("Promise 5", "So many steps (0 to 5,000) of a guest");
        edge.begin(64, "AT 16/ADD r1 r2/SET r2 1/JUMP 16");
        edge.due("run 0", 0, edge.x.run(edge.g, 0));
        edge.looks(1, 16, 7, 0);
        edge.due("run 1", 1, edge.x.run(edge.g, 1));
        edge.looks(1, 18, 7, 1);
        edge.due("run -1", -1, edge.x.run(edge.g, -1));
        edge.due("run 5,001", -1, edge.x.run(edge.g, 5001));
        edge.looks(1, 18, 7, 1);
        edge.due("run 5,000", 5000, edge.x.run(edge.g, 5000));
        edge.looks(1, 16, 7, 5001, 21, 1666, 22, 1);
    }

    private void tillHalted() {
        edge.sentence("Promise 5", "or till it is HALTED: how many");
        String text = "AT 16/SET r1 1/SET r2 2/HALT";
        for (int steps : new int[] {0, 1, 2, 3, 4, 5000}) {
            edge.begin(64, text);
            int due = Math.min(steps, 3);
            edge.due("run " + steps, due, edge.x.run(edge.g, steps));
            edge.looks(6, due == 3 ? 1 : 0, 7, due, 1, due == 3 ? 20 : 16 + 2 * due);
            edge.due("run again", 3 - due, edge.x.run(edge.g, 5000));
            edge.due("run when halted", 0, edge.x.run(edge.g, 5000));
            edge.looks(6, 1, 7, 3, 1, 20);
        }
    }

    private void noneLoaded() {
        edge.sentence("Promise 5", "NONE: no such guest (or none was loaded), others.");
        edge.due("run ahead of load", -1, edge.x.run(edge.g, 0));
        edge.due("load with a fault", -1, edge.x.loadText(edge.g, 64, edge.depth, "x"));
        edge.due("run behind a fault", -1, edge.x.run(edge.g, 0));
        edge.due("load", 0, edge.x.load(edge.g, 64, edge.depth, 0));
        edge.due("run behind load", 0, edge.x.run(edge.g, 0));
        for (int other : new int[] {-1, 3, (edge.g + 1) % 3, (edge.g + 2) % 3, Edge.LEAST, Edge.MOST}) {
            edge.due("run of " + other, -1, edge.x.run(other, 0));
        }
        for (int steps : new int[] {-1, 5001, Edge.LEAST, Edge.MOST}) {
            edge.due("run " + steps, -1, edge.x.run(edge.g, steps));
        }
        edge.looks(7, 0, 1, 16);
    }

    private void bytesTyped() {
        edge.sentence("Promise 6", "A byte (0 to 255) is typed at a guest's console: true.");
        edge.due("type ahead of load", false, edge.x.type(edge.g, 0));
        edge.begin(64, "AT 16/IN r1/IN r2/IN r3/HALT");
        edge.due("type -1", false, edge.x.type(edge.g, -1));
        edge.due("type 0", true, edge.x.type(edge.g, 0));
        edge.due("type 255", true, edge.x.type(edge.g, 255));
        edge.due("type 256", false, edge.x.type(edge.g, 256));
        edge.due("type 511", false, edge.x.type(edge.g, 511));
        edge.looks(9, 2);
        edge.run(4);
        edge.looks(21, 0, 22, 255, 23, 65535, 9, 0, 6, 1);
        edge.due("type when halted", true, edge.x.type(edge.g, 7));
        edge.looks(9, 1);
    }

    private void hundredWait() {
        edge.sentence("Promise 6", "or 100 wait");
        edge.begin(64, "AT 16/IN r1/JUMP 16");
        for (int round = 0; round < 2; round++) {
            for (int i = 0; i < 100; i++) {
                edge.due("type " + i, true, edge.x.type(edge.g, i + round));
            }
            edge.looks(9, 100);
            edge.due("the 101st", false, edge.x.type(edge.g, 255));
            edge.looks(9, 100);
            edge.due("run", 1, edge.x.run(edge.g, 1));
            edge.looks(9, 99, 21, round);
            edge.due("one more", true, edge.x.type(edge.g, 254));
            edge.due("no more", false, edge.x.type(edge.g, 253));
            edge.run(200);
            edge.looks(9, 0, 21, 254);
            edge.run(2);
            edge.looks(9, 0, 21, 65535, 1, 18);
            edge.run(1);
        }
    }

    private void looks() {
        edge.sentence("Promise 7", "from 20 to 27 its registers. NONE for others, or no such guest.");
        edge.begin(64, "AT 16/SET r0 100/SET r7 107");
        edge.run(2);
        edge.looks(-1, -1, 0, 0, 11, edge.depth, 12, -1, 13, -1, 19, -1, 20, 100, 27, 107, 28, -1, 29, -1);
        edge.looks(Edge.LEAST, -1, Edge.MOST, -1, -20, -1, Edge.LEAST + 20, -1, Edge.LEAST + 19, -1);
        for (int none : new int[] {-1, 3, (edge.g + 1) % 3, Edge.LEAST, Edge.MOST}) {
            edge.due("look of " + none, -1, edge.x.look(none, 20));
        }
    }

    private void stepsInAll() {
        edge.sentence("Promise 7", "7 steps in all, 8 bytes that went to the console, 9 bytes typed that wait");
        edge.begin(64, "AT 16/OUT r1/JUMP 16");
        edge.run(998);
        edge.looks(7, 998, 8, 499);
        edge.run(2);
        edge.looks(7, 1000, 8, 500);
        edge.run(2);
        edge.looks(7, 1002, 8, 501);
        edge.run(5000);
        edge.looks(7, 6002, 8, 3001, 9, 0);
        // A trap is a step, and so is the one that halts.
        edge.begin(64, "AT 5/WORD 18/WORD 0/WORD 64/AT 16/SVC 1/HALT");
        edge.due("run", 2, edge.x.run(edge.g, 5000));
        edge.looks(7, 2, 6, 1);
    }

    private void words() {
        edge.sentence("Promise 8", "A word of a guest's memory; NONE when there is none such.");
        for (int size : new int[] {64, 1024}) {
            edge.begin(size, "WORD 11/AT " + (size - 1) + "/WORD 65535");
            edge.words(-1, -1, 11, 0);
            edge.words(size - 2, 0, 65535, -1, -1);
            for (int none : new int[] {1024, 1844, 65535, 65536, Edge.LEAST, Edge.MOST}) {
                edge.words(none, -1);
            }
        }
        for (int none : new int[] {-1, 3, (edge.g + 1) % 3, Edge.LEAST, Edge.MOST}) {
            edge.due("word of guest " + none, -1, edge.x.word(none, 0));
        }
    }

    private void outputs() {
        edge.sentence("Promise 9", "Byte i (from 0) of the first 500 that went to the console; NONE when there is none such.");
        edge.begin(64, "AT 16/SET r2 1/OUT r1/ADD r1 r2/JUMP 18");
        edge.due("output 0 of none", -1, edge.x.output(edge.g, 0));
        edge.run(2);
        edge.due("output 0 of one", 0, edge.x.output(edge.g, 0));
        edge.due("output 1 of one", -1, edge.x.output(edge.g, 1));
        edge.due("output -1", -1, edge.x.output(edge.g, -1));
        edge.run(3 * 498);
        edge.due("output 498 of 499", 498 % 256, edge.x.output(edge.g, 498));
        edge.due("output 499 of 499", -1, edge.x.output(edge.g, 499));
        edge.run(3);
        edge.due("output 499 of 500", 499 % 256, edge.x.output(edge.g, 499));
        edge.due("output 500 of 500", -1, edge.x.output(edge.g, 500));
        edge.run(3 * 30);
        edge.looks(8, 530);
        edge.due("output 0 of 530", 0, edge.x.output(edge.g, 0));
        edge.due("output 29 of 530", 29, edge.x.output(edge.g, 29));
        edge.due("output 499 of 530", 499 % 256, edge.x.output(edge.g, 499));
        for (int none : new int[] {500, 501, 529, 530, Edge.LEAST, Edge.MOST}) {
            edge.due("output " + none + " of 530", -1, edge.x.output(edge.g, none));
        }
        for (int none : new int[] {-1, 3, (edge.g + 1) % 3, Edge.LEAST, Edge.MOST}) {
            edge.due("output of guest " + none, -1, edge.x.output(none, 0));
        }
    }

    private void disk() {
        edge.sentence("Promise 10", "A word of a block of a guest's disk (0 at first); NONE when there is none such.");
        edge.begin(64, "AT 16/SET r1 7/PUTB r1 r0 40/PUTB r0 r0 48/AT 40/WORD 4/AT 55/WORD 5/AT 63/WORD 65535");
        for (int block = 0; block < 8; block++) {
            for (int i = 0; i < 16; i++) {
                edge.due("disk " + block + " " + i, 0, edge.x.disk(edge.g, block, i));
            }
        }
        edge.run(3);
        int[][] due = {{7, 0, 4}, {7, 15, 5}, {7, 1, 0}, {0, 15, 65535}, {0, 7, 5}, {0, 0, 0}, {1, 0, 0}, {6, 15, 0}, {7, 16, -1}, {8, 0, -1},
            {0, -1, -1}, {-1, 0, -1}, {-1, 16, -1}, {8, -1, -1}, {Edge.LEAST, 0, -1}, {Edge.MOST, 0, -1}, {0, Edge.LEAST, -1}, {0, Edge.MOST, -1}};
        for (int[] d : due) {
            edge.due("disk " + d[0] + " " + d[1], d[2], edge.x.disk(edge.g, d[0], d[1]));
        }
        for (int none : new int[] {-1, 3, (edge.g + 1) % 3, Edge.LEAST, Edge.MOST}) {
            edge.due("disk of guest " + none, -1, edge.x.disk(none, 0, 0));
        }
    }
}
