/** The boundary cases of PART 2, the tape's text, one test for each sentence that names one (promises 3 and 4). */
public final class EdgesOfTextTest {
    private static final String PART = "Promise 3 (PART 2)";
    private static final String FAULTS = "Promise 4 (PART 2)";
    private static final String[] NAMES = {"HALT", "SET", "LOAD", "STORE", "LOADX", "STOREX", "MOVE", "ADD", "SUB", "AND", "LESS", "SHIFT",
        "JUMP", "ZERO", "GO", "CALL", "SVC", "LPSW", "SPSW", "SETT", "GETT", "IN", "OUT", "GETB", "PUTB"};
    private static final int A_N = 1;
    private static final int A_B_N = 2;
    private static final int A_B = 3;
    private static final int A = 4;
    private static final int N = 5;
    private static final String[] WANTED = {"", " r1 2", " r1 r3 2", " r1 r3", " r1", " 2"};

    private final Edge edge = new Edge("EdgesOfTextTest");

    public static void main(String[] args) {
        EdgesOfTextTest test = new EdgesOfTextTest();
        for (int depth = 0; depth < 3; depth++) {
            test.edge.depth = depth;
            test.edge.g = 2 - depth;
            test.bytes();
            test.lineEnds();
            test.colon();
            test.noBlankBehindColon();
            test.blanks();
            test.remark();
            test.names();
            test.registers();
            test.wants();
            test.unwanted();
            test.space();
            test.at();
            test.wordsBetween();
            test.labelAheadOfAt();
            test.digits();
            test.numbers();
            test.labelAndNumber();
            test.goingRound();
            test.labelBytes();
            test.labelLength();
            test.labelAddress();
            test.firstLine();
            test.firstFault();
            test.secondTime();
            test.hundredLabels();
            test.wordBeyond();
            test.endBeyond();
            test.nowhere();
        }
        test.edge.end();
    }

    private void good(int behind, String text) {
        edge.good(64, behind, text);
    }

    private void bad(int fault, int line, String text) {
        edge.bad(64, fault, line, text);
    }

    private void bytes() {
        edge.sentence(PART, "A text of bytes 10, 32 to 126");
        for (int b : new int[] {0, 9, 11, 13, 31, 127, 128, 159, 160, 255}) {
            bad(1, 1, "WORD 1" + (char) b);
        }
        good(1, "WORD 1" + (char) 10);
        good(1, "WORD 1" + (char) 32);
        good(1, "WORD 1;" + (char) 32 + (char) 33 + (char) 125 + (char) 126);
    }

    private void lineEnds() {
        edge.sentence(PART, "LINES end with a 10 or with the text.");
        good(0, "");
        good(0, "\n");
        good(0, "\n\n\n");
        good(1, "WORD 1");
        good(1, "WORD 1\n");
        good(2, "WORD 1\nWORD 2");
        good(2, "WORD 1\nWORD 2\n\n");
        bad(1, 1, "WORD 1 WORD 2");
        // Both ends of a line cut what would be good with the next byte.
        bad(1, 1, "WORD\n1");
        bad(1, 1, "WORD ");
        edge.sentence(PART, "LINES end with a 10 or with the text.");
        edge.x.feedText("WORD 123");
        edge.due("a number that the text's end cuts", 1, edge.x.load(edge.g, 64, edge.depth, 7));
        edge.words(0, 12, 0);
        edge.x.feedText("WORD a\na:b");
        edge.due("what follows a colon, cut by the text's end", 1, edge.x.load(edge.g, 64, edge.depth, 9));
        edge.x.feedText("a:\nWORD abc");
        edge.due("a label that the text's end cuts", 1, edge.x.load(edge.g, 64, edge.depth, 9));
        edge.x.feedText("AT 5\nHALTED");
        edge.due("a name that the text's end cuts", 7, edge.x.load(edge.g, 64, edge.depth, 9));
        edge.x.feedText("MOVE r1 r77");
        edge.due("a register that the text's end cuts", 2, edge.x.load(edge.g, 64, edge.depth, 10));
    }

    private void colon() {
        edge.sentence(PART, "perhaps a LABEL and a colon right behind it");
        good(0, "a:");
        bad(1, 1, "a :");
        bad(1, 1, "a");
        bad(1, 1, ":");
        bad(1, 1, "a::");
        bad(1, 1, "a: b:");
        bad(1, 1, "a HALT");
    }

    private void noBlankBehindColon() {
        edge.sentence(PART, "(behind the colon none need stand)");
        good(2, "a:HALT");
        good(2, "a: HALT");
        good(1, "a:WORD 7");
        edge.words(0, 7);
        good(0, "a:;");
    }

    private void blanks() {
        edge.sentence(PART, "blanks around and between");
        good(2, "HALT");
        good(2, "   HALT   ");
        good(2, "   a:   LOADX   r1   r2   3   ");
        edge.words(0, 4 * 64 + 8 + 2, 3);
        good(2, "LOADX r1 r2 3");
        bad(1, 1, "LOADXr1 r2 3");
        bad(1, 1, "LOADX r1r2 3");
        bad(1, 1, "LOADX r1 r23");
        bad(1, 1, "LOADX r1,r2 3");
        good(0, "   ");
    }

    private void remark() {
        edge.sentence(PART, "from a ; on it does not count (a byte that is none of those is fault 1 there, too)");
        good(0, ";");
        good(0, ";a: a: HALT HALT ;;");
        good(2, "HALT;HALT");
        good(1, "WORD 1;2");
        edge.words(0, 1);
        bad(1, 1, "WORD;1");
        good(1, "WORD 1;" + (char) 126);
        bad(1, 1, "WORD 1;" + (char) 127);
        bad(1, 1, "WORD 1;" + (char) 31);
        bad(1, 2, "WORD 1;\n;" + (char) 0);
        // The remark ends with its line.
        good(2, "WORD 1;\nWORD 2");
    }

    private void names() {
        edge.sentence(PART, "An order is the name of an operation (capitals, as above)");
        for (int i = 0; i < NAMES.length; i++) {
            String name = NAMES[i];
            String wanted = WANTED[form(name)];
            good(2, name + wanted);
            edge.due("operation", i, edge.x.word(edge.g, 0) / 64);
            bad(1, 1, name.toLowerCase() + wanted);
            bad(1, 1, name.charAt(0) + name.substring(1).toLowerCase() + wanted);
            bad(1, 1, name + "X" + wanted);
            bad(1, 1, name.substring(0, name.length() - 1) + wanted);
        }
        for (String none : new String[] {"NOP", "H", "HALTS", "HALTHALT", "STOREXX", "LOADXX", "WORDS", "SPACES", "ATT", "A"}) {
            bad(1, 1, none);
            bad(1, 1, none + " r1 r2 3");
            bad(1, 1, none + " 3");
        }
    }

    private static int form(String name) {
        switch (name) {
            case "HALT": return 0;
            case "SET": case "LOAD": case "STORE": case "SHIFT": case "ZERO": case "CALL": return A_N;
            case "LOADX": case "STOREX": case "GETB": case "PUTB": return A_B_N;
            case "MOVE": case "ADD": case "SUB": case "AND": case "LESS": return A_B;
            case "GO": case "SETT": case "GETT": case "IN": case "OUT": return A;
            default: return N;
        }
    }

    private void registers() {
        edge.sentence(PART, "a (rD, D being 0 to 7)");
        good(2, "MOVE r0 r7");
        edge.words(0, 6 * 64 + 7);
        good(2, "MOVE r7 r0");
        edge.words(0, 6 * 64 + 56);
        for (String wrong : new String[] {"r8", "r9", "r", "r/", "r:", "r00", "r07", "R0", "0", "r-1"}) {
            bad(1, 1, "MOVE " + wrong + " r0");
            bad(1, 1, "MOVE r0 " + wrong);
        }
    }

    private void wants() {
        edge.sentence(PART, "and what it wants, with blanks between");
        for (String name : NAMES) {
            int own = form(name);
            for (int form = 0; form < WANTED.length; form++) {
                if (form == own) {
                    good(2, name + WANTED[form]);
                } else {
                    // Where N is wanted, a register's name is a label, which is nowhere.
                    boolean isLabel = own == A_N && form == A_B || own == N && form == A;
                    bad(isLabel ? 5 : 1, 1, name + WANTED[form]);
                }
            }
            bad(1, 1, name + WANTED[own] + " 2");
            bad(1, 1, name + WANTED[own] + " r2");
        }
        good(1, "WORD 2");
        bad(1, 1, "WORD");
        bad(1, 1, "WORD 2 2");
        bad(1, 1, "SPACE");
        bad(1, 1, "SPACE 2 2");
        bad(1, 1, "AT");
        bad(1, 1, "AT 2 2");
    }

    private void unwanted() {
        edge.sentence(PART, "What it does not want is 0.");
        good(10, "HALT\nGO r7\nJUMP 65535\nSET r7 65535\nMOVE r7 r7");
        edge.words(0, 0, 0, 14 * 64 + 56, 0, 12 * 64, 65535, 64 + 56, 65535, 6 * 64 + 63, 0);
    }

    private void space() {
        edge.sentence(PART, "SPACE N (N a number): so many words 0");
        good(2, "WORD 9\nSPACE 0\nWORD 8");
        edge.words(0, 9, 8);
        good(3, "WORD 9\nSPACE 1\nWORD 8");
        edge.words(0, 9, 0, 8);
        good(64, "SPACE 64");
        edge.words(62, 0, 0, -1);
        bad(1, 2, "a:\nSPACE a");
        bad(1, 2, "a:\nSPACE a+1");
        // The words are 0 though an earlier text had others there.
        edge.sentence(PART, "SPACE N (N a number): so many words 0");
        edge.x.loadText(edge.g, 64, edge.depth, "WORD 1\nWORD 2\nWORD 3\nWORD 4");
        edge.due("load", 3, edge.x.loadText(edge.g, 64, edge.depth, "SPACE 2\nWORD 5"));
        edge.words(0, 0, 0, 5, 0);
    }

    private void at() {
        edge.sentence(PART, "AT N (a number): the next word's address, not below the present one: else it is fault 1");
        good(0, "AT 0");
        good(6, "AT 5\nAT 5\nWORD 1");
        edge.words(4, 0, 1);
        good(7, "AT 5\nAT 6\nWORD 1");
        edge.words(5, 0, 1);
        bad(1, 2, "AT 5\nAT 4");
        bad(1, 2, "WORD 1\nAT 0");
        good(1, "WORD 1\nAT 1");
        bad(1, 2, "HALT\nAT 1");
        good(2, "HALT\nAT 2");
        bad(1, 2, "SPACE 64\nAT 63");
        good(64, "SPACE 64\nAT 64");
        bad(1, 2, "a:\nAT a");
        bad(1, 2, "a:\nAT a+1");
    }

    private void wordsBetween() {
        edge.sentence(PART, "(words between are 0;");
        edge.x.loadText(edge.g, 64, edge.depth, "WORD 1\nWORD 2\nWORD 3\nWORD 4\nWORD 5");
        edge.due("load", 4, edge.x.loadText(edge.g, 64, edge.depth, "WORD 6\nAT 3\nWORD 7"));
        edge.words(0, 6, 0, 0, 7, 0);
    }

    private void labelAheadOfAt() {
        edge.sentence(PART, "a label ahead of AT is the present address)");
        good(23, "WORD 9\na: AT 20\nb: WORD a\nWORD b\nWORD 5");
        edge.words(19, 0, 1, 20, 5);
        good(21, "a: AT 20\nWORD a+20");
        edge.words(20, 20);
    }

    private void digits() {
        edge.sentence(PART, "a number (1 to 5 digits");
        good(1, "WORD 0");
        good(1, "WORD 00000");
        good(1, "WORD 00012");
        edge.words(0, 12);
        bad(1, 1, "WORD 000000");
        bad(1, 1, "WORD 000012");
        bad(1, 1, "WORD 4294967297");
        bad(1, 1, "WORD -1");
        bad(1, 1, "WORD +1");
        bad(1, 1, "WORD /");
        bad(1, 1, "WORD 1a");
        good(0, "SPACE 00000");
        bad(1, 1, "SPACE 000000");
        good(9, "AT 00009");
        bad(1, 1, "AT 000009");
    }

    private void numbers() {
        edge.sentence(PART, "at most 65,535)");
        good(1, "WORD 65535");
        edge.words(0, 65535);
        bad(1, 1, "WORD 65536");
        bad(1, 1, "WORD 99999");
        good(2, "SET r1 65535");
        bad(1, 1, "SET r1 65536");
        // 65,535 is a number here, but too much of it; 65,536 is none.
        bad(4, 1, "SPACE 65535");
        bad(1, 1, "SPACE 65536");
        bad(4, 1, "AT 65535");
        bad(1, 1, "AT 65536");
        good(1, "a: WORD a+65535");
        bad(1, 1, "a: WORD a+65536");
    }

    private void labelAndNumber() {
        edge.sentence(PART, "or a label, + and a number with nothing between");
        good(1, "a: WORD a+0");
        bad(1, 1, "a: WORD a +0");
        bad(1, 1, "a: WORD a+ 0");
        bad(1, 1, "a: WORD a+");
        bad(1, 1, "a: WORD +0");
        bad(1, 1, "a: WORD a+a");
        bad(1, 1, "a: WORD 0+a");
        bad(1, 1, "a: WORD a+0+0");
        bad(1, 1, "a: WORD a-0");
        good(1, "a: WORD a+00000");
        bad(1, 1, "a: WORD a+000000");
    }

    private void goingRound() {
        edge.sentence(PART, "(going round)");
        good(5, "AT 2\na: WORD a+65533\nWORD a+65534\nWORD a+65535");
        edge.words(2, 65535, 0, 1);
        good(64, "a: JUMP b+65472\nJUMP b+65471\nAT 64\nb:");
        edge.words(0, 768, 0, 768, 65535);
    }

    private void labelBytes() {
        edge.sentence(PART, "A LABEL: a to z, then letters a to z and digits");
        for (String label : new String[] {"a", "z", "a0", "z9", "aaz", "r1", "a0b9"}) {
            good(1, label + ": WORD " + label);
        }
        for (String none : new String[] {"0", "9a", "A", "Z", "aA", "aZ", "`", "{", "a`", "a{", "a_", "a/", "a-", "@", "a["}) {
            bad(1, 1, none + ":");
            bad(1, 1, "WORD " + none + (none.matches("[0-9]+") ? "x" : ""));
        }
        labelsApart();
    }

    /** All labels of one and of two bytes, two first letters in a text: each label is another one. */
    private void labelsApart() {
        for (char first = 'a'; first < 'z'; first++) {
            for (char second = (char) (first + 1); second <= 'z'; second++) {
                edge.x = new Tower();
                String text = labelsFrom(first) + labelsFrom(second);
                edge.due("labels that begin with " + first + " and " + second, 0, edge.x.loadText(edge.g, 64, edge.depth, text));
            }
        }
    }

    private static String labelsFrom(char first) {
        StringBuilder text = new StringBuilder(first + ":\n");
        for (char next : "abcdefghijklmnopqrstuvwxyz0123456789".toCharArray()) {
            text.append(first).append(next).append(":\n");
        }
        return text.toString();
    }

    private void labelLength() {
        edge.sentence(PART, "at most 8 bytes");
        good(1, "abcdefgh: WORD abcdefgh");
        good(1, "z9999999: WORD z9999999+1");
        edge.words(0, 1);
        bad(1, 1, "abcdefghi:");
        bad(1, 1, "WORD abcdefghi");
        bad(1, 1, "WORD abcdefghi+1");
        // Eight bytes tell labels apart, down to the last one and to the length.
        good(5, "abcdefgh:\nWORD 1\nabcdefgi:\nWORD 1\nabcdefg: WORD abcdefgh\nWORD abcdefgi\nWORD abcdefg");
        edge.words(2, 0, 1, 2);
    }

    private void labelAddress() {
        edge.sentence(PART, "the address of what is behind it");
        good(64, "WORD e\nWORD s\nWORD b\nb:\ns: SPACE 0\nAT 64\ne:");
        edge.words(0, 64, 3, 3);
    }

    private void firstLine() {
        edge.sentence(FAULTS, "FAULTS, of the first line that has one (lines are numbered from 1 on)");
        bad(1, 1, "x");
        bad(1, 2, "\nx");
        bad(1, 3, "WORD 1\n;\nx");
        bad(1, 2, "WORD 1\nx\na:\na:\ny");
        bad(4, 1, "SPACE 65\nx");
        bad(2, 2, "a:\na:\nSPACE 65\nx");
        // The longest text has 3,000 lines.
        bad(1, 3000, "\n".repeat(2999) + "x");
        bad(1, 2999, "\n".repeat(2998) + "x\n");
        good(0, "\n".repeat(3000));
    }

    private void firstFault() {
        edge.sentence(FAULTS, "of several there the first of these");
        bad(1, 2, "a:\na: x");
        bad(1, 3, "AT 9\na:\na: AT 8");
        bad(2, 2, "a:\na: SPACE 65");
        bad(2, 2, "a:\na: AT 65");
        bad(2, 101, labels(100) + "l1: SPACE 65");
        bad(2, 101, labels(100) + "l100:");
        bad(1, 101, labels(100) + "m: x");
        bad(3, 101, labels(100) + "m: SPACE 65");
        bad(1, 1, "SPACE 65 65");
    }

    private void secondTime() {
        edge.sentence(FAULTS, "2 a label for the second time");
        good(0, "a:\nb:");
        bad(2, 2, "a:\na:");
        bad(2, 3, "a: WORD a\nWORD a\na: WORD a");
        // Another text may have the label again.
        edge.sentence(FAULTS, "2 a label for the second time");
        edge.x.loadText(edge.g, 64, edge.depth, "WORD 1\na:");
        edge.due("the next text's label", 1, edge.x.loadText(edge.g, 64, edge.depth, "a: WORD a"));
        edge.words(0, 0);
    }

    private void hundredLabels() {
        edge.sentence(FAULTS, "3 the 101st label");
        good(1, labels(100) + "WORD l100");
        bad(3, 101, labels(101));
        bad(3, 102, labels(100) + "WORD 1\nm:");
        // Labels that are only wanted are no labels of the text: 101 such names are fault 5.
        StringBuilder wanted = new StringBuilder();
        for (int i = 1; i <= 101; i++) {
            wanted.append("WORD m" + i + "\n");
        }
        edge.bad(128, 5, 1, wanted.toString());
        edge.sentence(FAULTS, "3 the 101st label");
        edge.x.loadText(edge.g, 64, edge.depth, labels(100));
        edge.due("labels of another text do not count", 0, edge.x.loadText(edge.g, 64, edge.depth, labels(100)));
    }

    private static String labels(int count) {
        StringBuilder text = new StringBuilder();
        for (int i = 1; i <= count; i++) {
            text.append("l" + i + ":\n");
        }
        return text.toString();
    }

    private void wordBeyond() {
        edge.sentence(FAULTS, "4 a word beyond the memory's size");
        for (int size : new int[] {64, 65, 1023, 1024}) {
            edge.good(size, size, "AT " + (size - 1) + "\nWORD 7");
            edge.words(size - 1, 7, -1);
            edge.bad(size, 4, 2, "AT " + size + "\nWORD 7");
            edge.good(size, size, "AT " + (size - 2) + "\nGO r1");
            edge.words(size - 2, 14 * 64 + 8, 0, -1);
            edge.bad(size, 4, 2, "AT " + (size - 1) + "\nGO r1");
            edge.bad(size, 4, 2, "AT " + size + "\nGO r1");
            // No word, no fault.
            edge.good(size, size, "AT " + size + "\na:\n;\n\nb:");
        }
    }

    private void endBeyond() {
        edge.sentence(FAULTS, "(of SPACE, AT: an end beyond it)");
        for (int size : new int[] {64, 65, 1023, 1024}) {
            edge.good(size, size, "SPACE " + size);
            edge.bad(size, 4, 1, "SPACE " + (size + 1));
            edge.good(size, size, "AT " + size);
            edge.bad(size, 4, 1, "AT " + (size + 1));
            edge.good(size, size, "WORD 1\nSPACE " + (size - 1));
            edge.bad(size, 4, 2, "WORD 1\nSPACE " + size);
            edge.good(size, size, "AT " + size + "\nSPACE 0");
            edge.bad(size, 4, 2, "AT " + size + "\nSPACE 1");
            edge.bad(size, 4, 2, "SPACE 1\nSPACE 65535");
        }
    }

    private void nowhere() {
        edge.sentence(FAULTS, "When there is none: 5 a label that is nowhere, of the first line with such a one.");
        good(1, "WORD a\na:");
        bad(5, 1, "WORD a\nb:");
        bad(5, 1, "WORD a+1");
        bad(5, 2, "WORD b\nWORD a\nb:\nWORD c");
        bad(5, 3, "\n\nJUMP a\nJUMP c");
        // What one text wants is not wanted by the next.
        edge.sentence(FAULTS, "When there is none: 5 a label that is nowhere, of the first line with such a one.");
        edge.due("a label wanted", 1, edge.x.loadText(edge.g, 64, edge.depth, "WORD a+3\na:"));
        edge.words(0, 4);
        edge.due("none wanted", 1, edge.x.loadText(edge.g, 64, edge.depth, "WORD 7\nb:"));
        edge.words(0, 7);
        edge.due("nowhere", -1, edge.x.loadText(edge.g, 64, edge.depth, "WORD a"));
        edge.due("none wanted, none there", 1, edge.x.loadText(edge.g, 64, edge.depth, "a: WORD 9"));
        edge.words(0, 9);
        // Any other fault, on a later line too, is told ahead of it.
        bad(1, 2, "WORD a\nx");
        bad(2, 3, "WORD a\nb:\nb:");
        bad(3, 102, "WORD a\n" + labels(101));
        bad(4, 2, "WORD a\nSPACE 64");
    }
}
