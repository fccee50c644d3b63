/**
 * Promises 2 to 10: refused calls. Two objects are made alike, one of them is asked for what is refused; then both answer alike
 * to all calls behind it: all is as before.
 */
public final class RefusedCallsTest {
    private interface Call {
        long on(Tower x);
    }

    private static final String PROGRAM = "AT 4/WORD 0/WORD 16/WORD 0/WORD 64/AT 16/SET r1 5/SETT r1/OUT r1/IN r2/PUTB r1 r0 16/LPSW 28/"
        + "WORD 1/WORD 32/WORD 0/WORD 64/ADD r3 r1/JUMP 32";
    private static final String ON_TAPE = "WORD 7\nWORD 8\nWORD 9";
    private static final int[] NO_GUESTS = {-1, 3, Edge.LEAST, Edge.MOST};

    private final Edge edge = new Edge("RefusedCallsTest");

    public static void main(String[] args) {
        RefusedCallsTest test = new RefusedCallsTest();
        test.feed();
        test.loadOfNoSuchGuest();
        test.loadOfNoSuchSize();
        test.loadOfNoSuchDepth();
        test.loadOfNoSuchLength();
        test.loadOnAnEmptyTape();
        test.loadWithFault();
        test.fault();
        test.run();
        test.type();
        test.typeWhenFull();
        test.look();
        test.word();
        test.output();
        test.disk();
        test.edge.end();
    }

    /** Three guests of three depths in the midst of their work, and the latest load a fault 2 on line 3. */
    private static Tower busy() {
        Tower x = new Tower();
        for (int g = 0; g < 3; g++) {
            x.loadText(g, 64, 2 - g, Desk.lines(PROGRAM));
            x.type(g, 70 + g);
            x.type(g, 80 + g);
            x.run(g, 8 + g);
        }
        x.loadText(0, 64, 0, "\na:\na:");
        return x;
    }

    private static Tower busyWithTape() {
        Tower x = busy();
        x.feedText(ON_TAPE);
        return x;
    }

    private void refused(String what, long answer, Call call) {
        Tower asked = busyWithTape();
        Tower other = busyWithTape();
        edge.due(what, answer, call.on(asked));
        sameGuests(what, asked, other);
        edge.due(what + ", then fault(0)", 2, asked.fault(0));
        edge.due(what + ", then fault(1)", 3, asked.fault(1));
        sameRuns(what, asked, other);
        edge.due(what + ", then feed", 40, asked.feed(10, 0, 0, 0, 0));
        edge.due(what + ", then load", 3, asked.load(1, 64, 1, ON_TAPE.length()));
        for (int i = 0; i < 4; i++) {
            edge.due(what + ", then word " + i, i < 3 ? 7 + i : 0, asked.word(1, i));
        }
    }

    private void sameGuests(String what, Tower asked, Tower other) {
        for (int g = 0; g < 3; g++) {
            for (int i = 0; i < 28; i++) {
                if (i < 12 || i >= 20) {
                    edge.due(what + ", then look " + g + " " + i, other.look(g, i), asked.look(g, i));
                }
            }
            for (int i = 0; i < 64; i++) {
                edge.due(what + ", then word " + g + " " + i, other.word(g, i), asked.word(g, i));
            }
            for (int i = 0; i < 2; i++) {
                edge.due(what + ", then output " + g + " " + i, other.output(g, i), asked.output(g, i));
            }
            for (int i = 0; i < 8; i++) {
                edge.due(what + ", then disk " + g + " " + i, other.disk(g, i, 1), asked.disk(g, i, 1));
            }
        }
    }

    /** How the guests go on: the second byte typed is the next one. */
    private void sameRuns(String what, Tower asked, Tower other) {
        for (int g = 0; g < 3; g++) {
            edge.due(what + ", then run", other.run(g, 10), asked.run(g, 10));
            for (int i : new int[] {0, 1, 4, 7, 8, 9, 22, 23}) {
                edge.due(what + ", then run, look " + g + " " + i, other.look(g, i), asked.look(g, i));
            }
            edge.due(what + ", then the byte typed", 80 + g, asked.look(g, 22));
        }
    }

    private void feed() {
        edge.sentence("Promise 2", "NONE when there would be more than 3,000.");
        Tower x = edge.x;
        x.loadText(0, 64, 1, "WORD 5");
        for (int i = 1; i <= 150; i++) {
            // "WORD", " 12;", then two remarks' worth of blanks, and a line's end.
            edge.due("feed " + i, 20 * i, i <= 50 ? x.feed(0x574F5244, 0x2031323B, 0x20202020, 0x20202020, 0x2020200A)
                : x.feed(0x20202020, 0x20202020, 0x20202020, 0x20202020, 0x20202020));
        }
        // Each of them would be a fault, had it come on the tape.
        edge.due("feed 151", -1, x.feed(-1, -1, -1, -1, -1));
        edge.due("feed 152", -1, x.feed(0, 0, 0, 0, 0));
        edge.due("load of 3,001 bytes", -2, x.load(1, 64, 2, 3001));
        edge.due("the guest", 5, x.word(0, 0));
        edge.due("the fault", 0, x.fault(0));
        edge.due("load of 3,000 bytes", 50, x.load(1, 64, 2, 3000));
        edge.due("the last word", 12, x.word(1, 49));
        edge.due("behind it", 0, x.word(1, 50));
        edge.due("feed on the empty tape", 20, x.feed(-1, -1, -1, -1, -1));
    }

    private void loadOfNoSuchGuest() {
        edge.sentence("Promise 3", "-2, doing nothing: no such guest");
        for (int g : NO_GUESTS) {
            refused("load(" + g + ", 64, 0, 6)", -2, x -> x.load(g, 64, 0, 6));
        }
    }

    private void loadOfNoSuchSize() {
        edge.sentence("Promise 3", "-2, doing nothing: no such guest, size");
        for (int size : new int[] {63, 1025, 0, -64, Edge.LEAST, Edge.MOST}) {
            refused("load(1, " + size + ", 0, 6)", -2, x -> x.load(1, size, 0, 6));
        }
    }

    private void loadOfNoSuchDepth() {
        edge.sentence("Promise 3", "-2, doing nothing: no such guest, size, depth");
        for (int depth : new int[] {-1, 3, Edge.LEAST, Edge.MOST}) {
            refused("load(1, 64, " + depth + ", 6)", -2, x -> x.load(1, 64, depth, 6));
        }
    }

    private void loadOfNoSuchLength() {
        edge.sentence("Promise 3", "or n below 0 or more than there are");
        for (int n : new int[] {-1, 21, 3000, 3001, Edge.LEAST, Edge.MOST}) {
            refused("load(1, 64, 0, " + n + ")", -2, x -> x.load(1, 64, 0, n));
        }
        // A text with a fault is not even looked at.
        edge.sentence("Promise 3", "or n below 0 or more than there are");
        edge.x.feedText("x");
        edge.due("load", -2, edge.x.load(0, 64, 0, 21));
        edge.due("fault", -1, edge.x.fault(0));
        edge.due("load of 20", -1, edge.x.load(0, 64, 0, 20));
        edge.due("fault", 1, edge.x.fault(0));
    }

    private void loadOnAnEmptyTape() {
        edge.sentence("Promise 3", "or n below 0 or more than there are");
        Tower asked = busy();
        Tower other = busy();
        edge.due("load of 1 byte of none", -2, asked.load(2, 64, 0, 1));
        sameGuests("load of 1 byte of none", asked, other);
        edge.due("fault", 2, asked.fault(0));
        edge.due("load of 0 bytes of none", 0, asked.load(2, 65, 0, 0));
        edge.due("the guest anew", 65, asked.look(2, 10));
    }

    private void loadWithFault() {
        edge.sentence("Promise 3", "NONE: a fault: the guest stays as it was.");
        String[] texts = {"WORD 1\nx", "a:\na:", hundredAndOneLabels(), "SPACE 65", "WORD a"};
        int[] lines = {2, 2, 101, 1, 1};
        for (int fault = 1; fault <= 5; fault++) {
            for (int g = 0; g < 3; g++) {
                String text = texts[fault - 1];
                String what = "load with fault " + fault + " of guest " + g;
                Tower asked = busy();
                Tower other = busy();
                asked.feedText(text);
                edge.due(what, -1, asked.load(g, 64, g, text.length()));
                edge.due(what + ", then fault(0)", fault, asked.fault(0));
                edge.due(what + ", then fault(1)", lines[fault - 1], asked.fault(1));
                sameGuests(what, asked, other);
                sameRuns(what, asked, other);
                edge.due(what + ", then feed: the tape was empty", 20, asked.feed(0, 0, 0, 0, 0));
            }
        }
        edge.sentence("Promise 3", "NONE: a fault: the guest stays as it was.");
        edge.due("a fault ahead of a guest", -1, edge.x.loadText(1, 64, 0, "x"));
        edge.due("no guest", -1, edge.x.run(1, 0));
        edge.due("no guest", -1, edge.x.look(1, 10));
    }

    private static String hundredAndOneLabels() {
        StringBuilder text = new StringBuilder();
        for (int i = 0; i <= 100; i++) {
            text.append("l" + i + ":\n");
        }
        return text.toString();
    }

    private void fault() {
        edge.sentence("Promise 4", "NONE for others, or ahead of any.");
        for (int what : new int[] {-1, 2, Edge.LEAST, Edge.MOST}) {
            refused("fault(" + what + ")", -1, x -> x.fault(what));
        }
    }

    private void run() {
        edge.sentence("Promise 5", "NONE: no such guest (or none was loaded), others.");
        for (int g : NO_GUESTS) {
            refused("run(" + g + ", 1)", -1, x -> x.run(g, 1));
        }
        for (int steps : new int[] {-1, 5001, Edge.LEAST, Edge.MOST}) {
            for (int g = 0; g < 3; g++) {
                int asked = g;
                refused("run(" + g + ", " + steps + ")", -1, x -> x.run(asked, steps));
            }
        }
        refused("run(1, 0), which is not refused,", 0, x -> x.run(1, 0));
    }

    private void type() {
        edge.sentence("Promise 6", "False: no such guest, another byte");
        for (int g : NO_GUESTS) {
            refused("type(" + g + ", 1)", 0, x -> x.type(g, 1) ? 1 : 0);
        }
        for (int b : new int[] {-1, 256, -256, Edge.LEAST, Edge.MOST}) {
            refused("type(1, " + b + ")", 0, x -> x.type(1, b) ? 1 : 0);
        }
    }

    private void typeWhenFull() {
        edge.sentence("Promise 6", "or 100 wait");
        for (int g = 0; g < 3; g++) {
            Tower asked = busy();
            Tower other = busy();
            int waiting = asked.look(g, 9);
            for (int i = waiting; i < 100; i++) {
                edge.due("type with " + i + " waiting", true, asked.type(g, i));
                other.type(g, i);
            }
            edge.due("type with 100 waiting", false, asked.type(g, 255));
            edge.due("type with 100 waiting", false, asked.type(g, 0));
            edge.due("those that wait", 100, asked.look(g, 9));
            sameGuests("type with 100 waiting", asked, other);
        }
        edge.sentence("Promise 6", "or 100 wait");
        edge.x.loadText(0, 64, 2, Desk.lines("AT 16/IN r1/JUMP 16"));
        for (int i = 0; i < 100; i++) {
            edge.x.type(0, i);
        }
        edge.due("the 101st", false, edge.x.type(0, 200));
        edge.due("run", 1, edge.x.run(0, 1));
        edge.due("the first one was taken", 0, edge.x.look(0, 21));
        edge.due("room for one", true, edge.x.type(0, 201));
        edge.due("and no more", false, edge.x.type(0, 202));
        for (int i = 1; i <= 101; i++) {
            edge.x.run(0, 2);
            edge.due("byte " + i, i < 100 ? i : i == 100 ? 201 : 65535, edge.x.look(0, 21));
        }
    }

    private void look() {
        edge.sentence("Promise 7", "NONE for others, or no such guest.");
        for (int g : NO_GUESTS) {
            refused("look(" + g + ", 1)", -1, x -> x.look(g, 1));
        }
        for (int what : new int[] {-1, 12, 19, 28, Edge.LEAST, Edge.MOST}) {
            refused("look(1, " + what + ")", -1, x -> x.look(1, what));
        }
    }

    private void word() {
        edge.sentence("Promise 8", "NONE when there is none such.");
        for (int g : NO_GUESTS) {
            refused("word(" + g + ", 16)", -1, x -> x.word(g, 16));
        }
        for (int address : new int[] {-1, 64, 1024, 65536, Edge.LEAST, Edge.MOST}) {
            refused("word(1, " + address + ")", -1, x -> x.word(1, address));
        }
    }

    private void output() {
        edge.sentence("Promise 9", "NONE when there is none such.");
        for (int g : NO_GUESTS) {
            refused("output(" + g + ", 0)", -1, x -> x.output(g, 0));
        }
        for (int i : new int[] {-1, 1, 499, 500, Edge.LEAST, Edge.MOST}) {
            refused("output(1, " + i + ")", -1, x -> x.output(1, i));
        }
    }

    private void disk() {
        edge.sentence("Promise 10", "NONE when there is none such.");
        for (int g : NO_GUESTS) {
            refused("disk(" + g + ", 5, 0)", -1, x -> x.disk(g, 5, 0));
        }
        for (int wrong : new int[] {-1, 16, Edge.LEAST, Edge.MOST}) {
            refused("disk(1, " + (wrong == 16 ? 8 : wrong) + ", 0)", -1, x -> x.disk(1, wrong == 16 ? 8 : wrong, 0));
            refused("disk(1, 5, " + wrong + ")", -1, x -> x.disk(1, 5, wrong));
        }
    }
}
