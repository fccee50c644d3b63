import java.lang.reflect.Field;
import java.util.Arrays;
import java.util.regex.Pattern;

/** The monitor in GuestTower.java is the assembled text of src/main/monitor/monitor.asm, and that text gives a machine. */
public final class MonitorTest {
    /** Traps of all kinds that end, a timer, the console and the disk; addresses are numbers, so that it can stand anywhere. */
    private static final String PROGRAM = Desk.lines("AT 4/WORD 0/WORD 40/WORD 0/WORD 614"
        + "/AT 12/WORD 1/WORD 52/WORD 8/WORD 99"
        + "/AT 16/IN r1/SET r3 5/SETT r3/LPSW 12"
        + "/AT 40/LOAD r4 8/OUT r4/SET r5 1/SUB r4 r5/ZERO r4 56/PUTB r4 r0 0/LPSW 0/AT 56/HALT"
        + "/AT 60/SVC 7/ADD r1 r1/ADD r1 r1/MOVE r2 r1/LESS r2 r4/ADD r2 r1/HALT");

    public static void main(String[] args) throws Exception {
        Desk desk = new Desk("MonitorTest");
        Class<?> monitor = Class.forName("GuestTower$Monitor");
        int[] held = (int[]) constant(monitor, "WORDS");
        int[] due = MonitorText.words();
        desk.due("LENGTH", due.length, (Integer) constant(monitor, "LENGTH"));
        desk.due("the words (java -cp build/own MonitorText writes them)", true, Arrays.equals(due, held));
        asProgram(desk, due.length);
        desk.end();
    }

    private static Object constant(Class<?> of, String name) throws Exception {
        Field field = of.getDeclaredField(name);
        field.setAccessible(true);
        return field.get(null);
    }

    /** "a monitor, itself a program for such a machine, gives its own guest a machine": loaded as any other program. */
    private static void asProgram(Desk desk, int length) throws Exception {
        int size = 1024 - length;
        Tower bare = new Tower();
        bare.loadText(0, size, 0, PROGRAM);
        bare.type(0, 200);
        // 4 to the user's mode, 1 + 7 for SVC, 5 till the timer has run out, 1 + 7 for that, 1 + 6 for HALT.
        desk.due("steps of the bare machine", 32, bare.run(0, 5000));
        desk.due("traps of the bare machine", 3, bare.look(0, 8));
        String behind = Pattern.compile("AT (\\d+)").matcher(PROGRAM).replaceAll(at -> "AT " + (length + Integer.parseInt(at.group(1))));
        for (int depth = 0; depth <= 2; depth++) {
            GuestTower x = new GuestTower();
            Desk.load(x, 0, 1024, depth, MonitorText.text() + behind);
            desk.due("fault of the monitor with its guest", 0, x.fault(0));
            x.type(0, 200);
            x.run(0, 5000);
            compare(desk, "monitor of depth " + depth, bare, x, length);
        }
    }

    private static void compare(Desk desk, String what, Tower bare, GuestTower x, int length) {
        desk.due(what + ": halted", 1, x.look(0, 6));
        for (int i = 20; i < 28; i++) {
            desk.due(what + ": look " + i, bare.look(0, i), x.look(0, i));
        }
        for (int i = 0; i < 4; i++) {
            desk.due(what + ": output " + i, bare.output(0, i), x.output(0, i));
        }
        for (int i = 0; i < 99; i++) {
            desk.due(what + ": word " + i, bare.word(0, i), x.word(0, length + i));
        }
        for (int i = 0; i < 16; i++) {
            desk.due(what + ": disk 2 " + i, bare.disk(0, 2, i), x.disk(0, 2, i));
            desk.due(what + ": disk 3 " + i, bare.disk(0, 3, i), x.disk(0, 3, i));
        }
    }
}
