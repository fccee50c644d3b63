/** What the tests of boundary cases share: what is not as due is told with the promise and the sentence it breaks. */
final class Edge {
    static final int LEAST = Integer.MIN_VALUE;
    static final int MOST = Integer.MAX_VALUE;

    private final Desk desk;
    private String sentence = "no sentence";
    Tower x = new Tower();
    int g = 0;
    int depth = 0;

    Edge(String name) {
        desk = new Desk(name);
    }

    /** A test of its own begins: on a new object. */
    void sentence(String where, String words) {
        sentence = where + ", \"" + words + "\"";
        x = new Tower();
    }

    void due(String what, long want, long got) {
        desk.due(sentence + ": guest " + g + ", depth " + depth + ": " + what, want, got);
    }

    void due(String what, boolean want, boolean got) {
        due(what, want ? 1 : 0, got ? 1 : 0);
    }

    void end() {
        desk.end();
    }

    /** The guest on a new object; lines are written with / between them. */
    void begin(int size, String text) {
        x = new Tower();
        int behind = x.loadText(g, size, depth, Desk.lines(text));
        due("load of " + text, true, behind >= 0);
        due("fault of " + text, 0, x.fault(0));
    }

    void run(int steps) {
        due("run " + steps, steps, x.run(g, steps));
    }

    /** Pairs of what is looked at and what is due. */
    void looks(int... pairs) {
        for (int i = 0; i < pairs.length; i += 2) {
            due("look " + pairs[i], pairs[i + 1], x.look(g, pairs[i]));
        }
    }

    void words(int from, int... words) {
        for (int i = 0; i < words.length; i++) {
            due("word " + (from + i), words[i], x.word(g, from + i));
        }
    }

    /** A text without a fault, on a new object, and the address behind its last line. */
    void good(int size, int behind, String text) {
        x = new Tower();
        due("load of " + text, behind, x.loadText(g, size, depth, text));
        due("fault of " + text, 0, x.fault(0));
        due("its line", 0, x.fault(1));
        due("the guest's size", size, x.look(g, 10));
    }

    /** A text with a fault, on a new object. */
    void bad(int size, int fault, int line, String text) {
        x = new Tower();
        due("load of " + text, -1, x.loadText(g, size, depth, text));
        due("fault of " + text, fault, x.fault(0));
        due("its line", line, x.fault(1));
        due("no guest", -1, x.look(g, 10));
    }
}
