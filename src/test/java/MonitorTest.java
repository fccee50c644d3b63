import java.lang.reflect.Field;
import java.util.Arrays;

/** The monitor in GuestTower.java is the assembled text of src/main/monitor/monitor.asm. */
public final class MonitorTest {
    public static void main(String[] args) throws Exception {
        Desk desk = new Desk("MonitorTest");
        Class<?> monitor = Class.forName("GuestTower$Monitor");
        int[] held = (int[]) constant(monitor, "WORDS");
        int[] due = MonitorText.words();
        desk.due("LENGTH", due.length, (Integer) constant(monitor, "LENGTH"));
        desk.due("the words (java -cp build/own MonitorText writes them)", true, Arrays.equals(due, held));
        desk.end();
    }

    private static Object constant(Class<?> of, String name) throws Exception {
        Field field = of.getDeclaredField(name);
        field.setAccessible(true);
        return field.get(null);
    }
}
