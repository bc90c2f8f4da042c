/** Promise 3: instructions, blocks, locals, and the faults 10, 11 and 12. */
public final class InstructionTest {
    private static final String NUMBER = "255 255 255 255 15 ";

    public static void main(String[] args) {
        everyCode();
        behind252();
        dataCountAhead();
        operandsThatAreWrong();
        elses();
        nesting();
        oneBehindTheOther();
        locals();
        Check.finish();
    }

    /** What stands behind an instruction; null when it is none. */
    private static String operands(int code) {
        if (code == 0 || code == 1 || code == 15 || code == 26 || code == 27 || code == 209 || code >= 69 && code <= 196) {
            return "";
        }
        if (code == 12 || code == 13 || code == 16 || code == 210 || code >= 32 && code <= 38) {
            return NUMBER;
        }
        if (code == 17 || code >= 40 && code <= 62) {
            return NUMBER + NUMBER;
        }
        switch (code) {
            case 2:
            case 3:
            case 4:
                return "64 11 ";
            case 14:
                return "2 " + NUMBER + NUMBER + NUMBER;
            case 28:
                return "3 127 112 124 ";
            case 63:
            case 64:
                return "0 ";
            case 65:
                return "255 255 255 255 127 ";
            case 66:
                return "128 128 128 128 128 128 128 128 128 127 ";
            case 67:
                return "11 11 11 11 ";
            case 68:
                return "11 11 11 11 11 11 11 11 ";
            case 208:
                return "111 ";
            default:
                return null;
        }
    }

    private static void everyCode() {
        for (int code = 0; code < 256; code++) {
            if (code == 11 || code == 252) {
                continue;
            }
            String operands = operands(code);
            if (operands == null) {
                expressionFault(10, 0, code + " 11");
                expressionFault(10, 1, "1 " + code + " 11");
            } else {
                expression(code + " " + operands + "11");
            }
        }
        expression("11");
        expression("14 0 0 11");
        expression("28 0 11");
    }

    private static void behind252() {
        String[] operands = new String[18];
        for (int k = 0; k < 18; k++) {
            operands[k] = k <= 7 ? "" : NUMBER;
        }
        operands[8] = NUMBER + "0 ";
        operands[10] = "0 0 ";
        operands[11] = "0 ";
        operands[12] = NUMBER + NUMBER;
        operands[14] = NUMBER + NUMBER;
        for (int k = 0; k < 18; k++) {
            body("252 " + k + " " + operands[k] + "11");
            body("252 " + (k + 128) + " 0 " + operands[k] + "11");
        }
        for (int k = 18; k < 128; k++) {
            expressionFault(10, 0, "252 " + k + " 11");
        }
        expressionFault(10, 1, "1 252 128 1 11");
        expressionFault(10, 0, "252 255 255 255 255 15 11");
        expressionFault(4, 5, "252 255 255 255 255 16 11");
    }

    private static void dataCountAhead() {
        for (int k = 8; k <= 9; k++) {
            expressionFault(11, 0, "252 " + k);
            expressionFault(11, 1, "1 252 " + (k + 128) + " 0 9 9 9");
            Check.fault(11, 9, Check.section(3, "1 0") + Check.section(10, "1 5 0 252 " + k + " 0 0 11"));
            Check.fault(11, 6, Check.section(9, "1 4 11 1 252 " + k + " 0 0 11"));
            Check.fault(11, 4, Check.section(11, "1 0 252 " + k + " 0 0 11 0"));
            // A section 12 that only comes behind the expression does not help it.
            Check.fault(11, 5, Check.section(6, "1 127 0 252 " + k + " 0 0 11") + Check.section(12, "0"));
        }
        ModuleBytes x = Check.module(Check.section(12, "0"));
        Check.due("no section 12 any more", Check.read(x, Check.HEAD + Check.section(6, "1 127 0 252 9 0 11")), 11);
        Check.module(Check.section(12, "1") + Check.section(11, "1 0 252 9 0 11 0"));
    }

    private static void operandsThatAreWrong() {
        expressionFault(7, 1, "63 1 11");
        expressionFault(7, 1, "64 128 0 11");
        expressionFault(7, 2, "252 10 1 0 11");
        expressionFault(7, 3, "252 10 0 1 11");
        expressionFault(7, 2, "252 11 2 11");
        Check.fault(7, 15, Check.section(3, "1 0") + Check.section(12, "0") + Check.section(10, "1 6 0 252 8 0 1 11"));
        expressionFault(8, 1, "208 127 11");
        expressionFault(8, 1, "208 64 11");
        expressionFault(8, 3, "28 2 127 64 11");
        expressionFault(8, 1, "2 96 11 11");
        expressionFault(4, 5, "12 128 128 128 128 16 11");
        expressionFault(4, 5, "65 128 128 128 128 8 11");
        expressionFault(4, 10, "66 128 128 128 128 128 128 128 128 128 1 11");
        expressionFault(1, 3, "17 0 11");
        expressionFault(1, 4, "40 0 0 1");
        expressionFault(1, 4, "14 2 0 11");
        expressionFault(1, 7, "14 255 255 255 255 15 11");
    }

    private static void elses() {
        expression("4 64 5 11 11");
        expression("4 64 1 5 1 11 11");
        expression("4 64 4 64 5 11 5 11 11");
        expression("4 64 5 4 64 5 11 11 11");
        expression("4 64 2 64 11 5 3 64 11 11 11");
        expressionFault(10, 0, "5 11");
        expressionFault(10, 2, "2 64 5 11 11");
        expressionFault(10, 2, "3 64 5 11 11");
        expressionFault(10, 3, "4 64 5 5 11 11");
        expressionFault(10, 4, "4 64 2 64 5 11 11 11");
        expressionFault(10, 3, "4 64 11 5 11");
        expressionFault(10, 6, "4 64 5 4 64 11 5 11 11");
        expressionFault(10, 5, "2 64 4 64 11 5 11 11");
    }

    private static void nesting() {
        expression("2 64 ".repeat(300) + "11*301");
        expressionFault(1, 900, "2 64 ".repeat(300) + "11*300");
        expression("4 64 ".repeat(500) + "5 11 ".repeat(300) + "11*201");
        ModuleBytes x = new ModuleBytes();
        Check.due("blocks to the end", Check.read(x, Check.HEAD + "6 197 15 1 127 0 " + "4 64 ".repeat(993)), 1);
        Check.due("place()", x.place(), 2000);
        Check.due("a 5 deep down", Check.read(x, Check.HEAD + "6 196 15 1 127 0 " + "4 64 ".repeat(992) + "5"), 1);
        Check.due("place()", x.place(), 1999);
        Check.due("a 5 too many", Check.read(x, Check.HEAD + "6 197 15 1 127 0 " + "4 64 ".repeat(992) + "5 5"), 10);
        Check.due("place()", x.place(), 1999);
        ModuleBytes y = Check.module(Check.section(6, "1 127 0 2 64 1 11 1 11"));
        Check.due("look(5, 0, 5)", y.look(5, 0, 5), 19);
    }

    private static void oneBehindTheOther() {
        ModuleBytes x = Check.module(Check.section(6, "3 127 0 4 64 5 11 11 127 0 2 64 1 11 11 127 0 4 64 1 5 11 1 11"));
        Check.due("look(5, 1, 5) - look(5, 1, 4)", x.look(5, 1, 5) - x.look(5, 1, 4), 5);
        Check.due("look(5, 2, 5) - look(5, 2, 4)", x.look(5, 2, 5) - x.look(5, 2, 4), 7);
        // Blocks that are open at a fault are none for the next reading.
        Check.due("a fault in blocks", Check.read(x, Check.HEAD + Check.section(6, "1 127 0 4 64 4 64 6")), 10);
        Check.due("a 5 in no block", Check.read(x, Check.HEAD + Check.section(6, "1 127 0 5 11 11")), 10);
        Check.due("a fault in blocks", Check.read(x, Check.HEAD + Check.section(6, "1 127 0 4 64 4 64 6")), 10);
        Check.due("no block", Check.read(x, Check.HEAD + Check.section(6, "1 127 0 11")), 0);
    }

    private static void locals() {
        Check.module(Check.section(3, "1 0") + Check.section(10, "1 " + Check.sized("1 255 255 255 255 15 127 11")));
        Check.module(Check.section(3, "1 0") + Check.section(10, "1 " + Check.sized("2 255 255 255 255 15 127 0 126 11")));
        Check.fault(12, 8, Check.section(3, "1 0") + Check.section(10, "1 " + Check.sized("2 255 255 255 255 15 127 1 126 11")));
        Check.fault(12, 4, Check.section(10, "1 " + Check.sized("2 1 127 255 255 255 255 15 126 255")));
        // All the body's locals are read before they are counted.
        Check.fault(8, 14, Check.section(10, "1 " + Check.sized("3 255 255 255 255 15 127 1 126 1 3 11")));
        // The locals of two bodies are not counted together.
        String most = Check.sized("1 255 255 255 255 15 127 11");
        Check.module(Check.section(3, "2 0 0") + Check.section(10, "2 " + most + most));
    }

    /** The text is an expression of a global, up to its last byte. */
    private static void expression(String text) {
        ModuleBytes x = Check.module(Check.section(6, "1 127 0 " + text));
        long begin = x.look(5, 0, 4);
        Check.due("the end of " + text, x.look(5, 0, 5) - begin, Check.length(text));
    }

    private static void expressionFault(int fault, int place, String text) {
        String sections = Check.section(6, "1 127 0 " + text);
        int ahead = Check.length(sections) - Check.length(text);
        Check.fault(fault, ahead + place, sections);
    }

    /** The text is the expression of a body, with a section 12 ahead of it. */
    private static void body(String text) {
        ModuleBytes x = Check.module(Check.section(3, "1 0") + Check.section(12, "0")
            + Check.section(10, "1 " + Check.sized("0 " + text)));
        Check.due("the end of " + text, x.look(8, 0, 5) - x.look(8, 0, 4), Check.length(text));
    }
}
