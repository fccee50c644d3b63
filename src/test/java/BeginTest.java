/** Promises 1 and 2: a new object, and feed. */
public final class BeginTest {
    public static void main(String[] args) {
        Desk desk = new Desk("BeginTest");
        newObject(desk);
        feed(desk);
        desk.end();
    }

    private static void newObject(Desk desk) {
        GuestTower x = new GuestTower();
        desk.due("NONE", -1, GuestTower.NONE);
        for (int g = -1; g <= 3; g++) {
            desk.due("run", -1, x.run(g, 0));
            desk.due("type", false, x.type(g, 65));
            for (int what = -1; what < 30; what++) {
                desk.due("look", -1, x.look(g, what));
            }
            desk.due("word", -1, x.word(g, 0));
            desk.due("output", -1, x.output(g, 0));
            desk.due("disk", -1, x.disk(g, 0, 0));
        }
        desk.due("fault(0)", -1, x.fault(0));
        desk.due("fault(1)", -1, x.fault(1));
        desk.due("load of more than there is", -2, x.load(0, 64, 0, 1));
        desk.due("fault(0) behind a -2", -1, x.fault(0));
    }

    private static void feed(Desk desk) {
        GuestTower x = new GuestTower();
        for (int i = 1; i <= 150; i++) {
            desk.due("feed " + i, 20 * i, x.feed(i, -1, Integer.MIN_VALUE, Integer.MAX_VALUE, 0));
        }
        desk.due("feed beyond 3,000", -1, x.feed(1, 2, 3, 4, 5));
        desk.due("load of 3,001", -2, x.load(0, 64, 0, 3001));
        desk.due("load of 3,000, no good bytes", -1, x.load(0, 64, 0, 3000));
        desk.due("feed on the empty tape", 20, x.feed(1, 2, 3, 4, 5));
        // "WORD" " 258" "\nWOR" "D 77" "\n   ": the highest byte of a number comes first.
        x.load(0, 64, 0, 0);
        desk.due("feed", 20, x.feed(0x574F5244, 0x20323538, 0x0A574F52, 0x44203737, 0x0A202020));
        desk.due("load", 2, x.load(0, 64, 0, 20));
        desk.due("word 0", 258, x.word(0, 0));
        desk.due("word 1", 77, x.word(0, 1));
    }
}
