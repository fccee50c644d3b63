import java.nio.charset.StandardCharsets;
import java.util.ArrayList;
import java.util.HashMap;
import java.util.List;
import java.util.Map;
import java.util.regex.Matcher;
import java.util.regex.Pattern;

/** The document's part 2, with patterns; the tests hold the class against it. */
final class ModelAssembler {
    private static final String LABEL = "[a-z][a-z0-9]{0,7}";
    private static final String NUMBER = "[0-9]{1,5}";
    private static final String N = "(" + NUMBER + "|" + LABEL + "(?:\\+" + NUMBER + ")?)";
    private static final String A = "r([0-7])";
    private static final Pattern LINE = Pattern.compile(" *(?:(" + LABEL + "):)? *(.*)");
    private static final String[] NAMES = {"HALT", "SET", "LOAD", "STORE", "LOADX", "STOREX", "MOVE", "ADD", "SUB", "AND",
        "LESS", "SHIFT", "JUMP", "ZERO", "GO", "CALL", "SVC", "LPSW", "SPSW", "SETT", "GETT", "IN", "OUT", "GETB", "PUTB"};
    private static final Pattern[] ORDERS = {
        Pattern.compile("(SET|LOAD|STORE|SHIFT|ZERO|CALL) +" + A + "() +" + N + " *"),
        Pattern.compile("(LOADX|STOREX|GETB|PUTB) +" + A + " +" + A + " +" + N + " *"),
        Pattern.compile("(MOVE|ADD|SUB|AND|LESS) +" + A + " +" + A + "() *"),
        Pattern.compile("(GO|SETT|GETT|IN|OUT) +" + A + "()() *"),
        Pattern.compile("(JUMP|SVC|LPSW|SPSW)()() +" + N + " *"),
        Pattern.compile("(HALT)()()() *"),
        Pattern.compile("(WORD)()() +" + N + " *"),
        Pattern.compile("(SPACE|AT)()() +(" + NUMBER + ") *"),
    };

    private record Use(int address, String label, int line) {
    }

    final int[] words;
    int fault;
    int line;
    int here;
    private final Map<String, Integer> labels = new HashMap<>();
    private final List<Use> uses = new ArrayList<>();

    ModelAssembler(byte[] text, int size) {
        words = new int[size];
        String[] lines = new String(text, StandardCharsets.ISO_8859_1).split("\n", -1);
        for (int i = 0; i < lines.length && fault == 0; i++) {
            fault = faultOf(lines[i], i + 1);
            line = fault == 0 ? 0 : i + 1;
        }
        for (Use use : uses) {
            if (fault == 0 && !labels.containsKey(use.label)) {
                fault = 5;
                line = use.line;
            } else if (fault == 0) {
                words[use.address] = (words[use.address] + labels.get(use.label)) % 65536;
            }
        }
    }

    private int faultOf(String text, int number) {
        if (!text.matches("[ -~]*")) {
            return 1;
        }
        Matcher m = LINE.matcher(text.replaceFirst(";.*", ""));
        if (!m.matches()) {
            return 1;
        }
        String label = m.group(1);
        Matcher order = null;
        if (!m.group(2).isEmpty()) {
            order = orderOf(m.group(2));
            if (order == null) {
                return 1;
            }
        }
        String name = order == null ? "" : order.group(1);
        String n = order == null ? "" : order.group(4);
        int plus = n.indexOf('+');
        int value = Character.isDigit(n.isEmpty() ? 'x' : n.charAt(0)) ? Integer.parseInt(n)
            : plus >= 0 ? Integer.parseInt(n.substring(plus + 1)) : 0;
        if (value > 65535 || name.equals("AT") && value < here) {
            return 1;
        }
        if (label != null && labels.containsKey(label)) {
            return 2;
        }
        if (label != null && labels.size() == 100) {
            return 3;
        }
        int end = name.isEmpty() ? here : name.equals("AT") ? value : name.equals("SPACE") ? here + value
            : name.equals("WORD") ? here + 1 : here + 2;
        if (end > words.length) {
            return 4;
        }
        if (label != null) {
            labels.put(label, here);
        }
        if (!name.isEmpty() && !name.equals("AT") && !name.equals("SPACE")) {
            if (!name.equals("WORD")) {
                words[here] = 64 * List.of(NAMES).indexOf(name) + 8 * digit(order.group(2)) + digit(order.group(3));
            }
            words[end - 1] = value;
            if (!n.isEmpty() && n.charAt(0) >= 'a') {
                uses.add(new Use(end - 1, plus >= 0 ? n.substring(0, plus) : n, number));
            }
        }
        here = end;
        return 0;
    }

    private static int digit(String text) {
        return text.isEmpty() ? 0 : Integer.parseInt(text);
    }

    private static Matcher orderOf(String text) {
        for (Pattern pattern : ORDERS) {
            Matcher m = pattern.matcher(text);
            if (m.matches()) {
                return m;
            }
        }
        return null;
    }
}
