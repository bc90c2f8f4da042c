/** Promise 7: what each of a kind is. */
public final class LookTest {
    private static final String MOST = "255 255 255 255 15 ";
    private static final long MOST_VALUE = 4294967295L;

    public static void main(String[] args) {
        imports();
        functionsTablesMemories();
        globalsAndExports();
        elements();
        bodies();
        data();
        customs();
        wrongArguments();
        Check.finish();
    }

    /** The answers for what = 0, 1, .. of the k-th, and -1 on both sides of them. */
    private static void answers(ModuleBytes x, int kind, int k, long... due) {
        for (int what = 0; what < due.length; what++) {
            Check.due("look(" + kind + ", " + k + ", " + what + ")", x.look(kind, k, what), due[what]);
        }
        for (int what = due.length; what < due.length + 12; what++) {
            Check.due("look(" + kind + ", " + k + ", " + what + ")", x.look(kind, k, what), -1);
        }
        Check.due("look(.., -1)", x.look(kind, k, -1), -1);
        Check.due("look(.., min)", x.look(kind, k, Integer.MIN_VALUE), -1);
        Check.due("look(.., max)", x.look(kind, k, Integer.MAX_VALUE), -1);
    }

    private static void imports() {
        ModuleBytes x = Check.module(Check.section(2, "9 0 0 0 5 " + "1 97 0 0 " + MOST
            + "0 0 1 112 0 7 " + "0 0 1 111 1 7 " + MOST
            + "0 0 2 0 " + MOST + "0 1 98 2 1 0 0 "
            + "0 0 3 127 0 " + "0 0 3 111 1 " + "0 0 1 112 1 9 3"));
        answers(x, 1, 0, 0, 5, 0, -1);
        answers(x, 1, 1, 0, MOST_VALUE, 0, -1);
        answers(x, 1, 2, 1, 112, 7, -1);
        answers(x, 1, 3, 1, 111, 7, MOST_VALUE);
        answers(x, 1, 4, 2, 0, MOST_VALUE, -1);
        answers(x, 1, 5, 2, 0, 0, 0);
        answers(x, 1, 6, 3, 127, 0, -1);
        answers(x, 1, 7, 3, 111, 1, -1);
        answers(x, 1, 8, 1, 112, 9, 3);
        answers(x, 1, 9);
        answers(x, 1, -1);
    }

    private static void functionsTablesMemories() {
        ModuleBytes x = Check.module(Check.section(3, "2 4 " + MOST)
            + Check.section(4, "2 111 0 3 112 1 4 " + MOST)
            + Check.section(5, "2 0 " + MOST + "1 2 1")
            + Check.section(10, "2 2 0 11 2 0 11"));
        answers(x, 2, 0, 4);
        answers(x, 2, 1, MOST_VALUE);
        answers(x, 2, 2);
        answers(x, 3, 0, -1, 111, 3, -1);
        answers(x, 3, 1, -1, 112, 4, MOST_VALUE);
        answers(x, 3, 2);
        answers(x, 4, 0, -1, 0, MOST_VALUE, -1);
        answers(x, 4, 1, -1, 0, 2, 1);
        answers(x, 4, 2);
    }

    private static void globalsAndExports() {
        ModuleBytes x = Check.module(Check.section(6, "2 127 1 65 5 11 112 0 11")
            + Check.section(7, "5 0 0 7 1 97 1 " + MOST + "0 2 0 0 3 9 0 0 0"));
        answers(x, 5, 0, -1, 127, 1, -1, 13, 16);
        answers(x, 5, 1, -1, 112, 0, -1, 18, 19);
        answers(x, 5, 2);
        answers(x, 6, 0, 0, 7);
        answers(x, 6, 1, 1, MOST_VALUE);
        answers(x, 6, 2, 2, 0);
        answers(x, 6, 3, 3, 9);
        answers(x, 6, 4, 0, 0);
        answers(x, 6, 5);
    }

    private static void elements() {
        ModuleBytes x = Check.module(Check.section(9, "9 "
            + "0 65 0 11 2 5 " + MOST
            + "1 0 1 6 "
            + "2 9 11 0 0 "
            + "3 0 3 1 2 3 "
            + "4 11 2 210 7 11 11 "
            + "5 111 1 208 111 11 "
            + "6 " + MOST + "1 11 112 0 "
            + "7 111 1 11 "
            + "2 0 11 0 1 8"));
        answers(x, 7, 0, 1, 112, 0, 2, 12, 15, 0, -1, 5, MOST_VALUE);
        answers(x, 7, 1, 0, 112, 0, 1, -1, -1, 0, -1, 6);
        answers(x, 7, 2, 1, 112, 9, 0, 28, 29, 0, -1);
        answers(x, 7, 3, 2, 112, 0, 3, -1, -1, 0, -1, 1, 2, 3);
        answers(x, 7, 4, 1, 112, 0, 2, 38, 39, 1, -1, 40, 43);
        answers(x, 7, 5, 0, 111, 0, 1, -1, -1, 1, -1, 47);
        answers(x, 7, 6, 1, 112, MOST_VALUE, 0, 56, 58, 1, -1);
        answers(x, 7, 7, 2, 111, 0, 1, -1, -1, 1, -1, 63);
        answers(x, 7, 8, 1, 112, 0, 1, 66, 67, 0, -1, 8);
        answers(x, 7, 9);
        answers(x, 7, -1);
    }

    private static void bodies() {
        ModuleBytes x = Check.module(Check.section(3, "3 0 0 0") + Check.section(10, "3 "
            + Check.sized("0 11")
            + Check.sized("3 2 127 0 112 " + Check.u32(300) + "124 65 1 26 11")
            + Check.sized("1 " + MOST + "111 11")));
        answers(x, 8, 0, 0, 0, -1, -1, 19, 20, -1, -1);
        answers(x, 8, 1, 3, 302, -1, -1, 29, 33, -1, -1, 2, 127, 0, 112, 300, 124);
        answers(x, 8, 2, 1, MOST_VALUE, -1, -1, 41, 42, -1, -1, MOST_VALUE, 111);
        answers(x, 8, 3);
    }

    private static void data() {
        ModuleBytes x = Check.module(Check.section(11, "4 0 65 0 11 3 1 2 3 " + "1 2 9 9 " + "2 " + MOST + "11 1 7 " + "1 0"));
        answers(x, 9, 0, 1, -1, 0, 3, 12, 15, 16);
        answers(x, 9, 1, 0, -1, 0, 2, -1, -1, 21);
        answers(x, 9, 2, 1, -1, MOST_VALUE, 1, 29, 30, 31);
        answers(x, 9, 3, 0, -1, 0, 0, -1, -1, 34);
        answers(x, 9, 4);
    }

    private static void customs() {
        ModuleBytes x = Check.module(Check.section(0, "2 97 98 1 2 3") + Check.section(1, "0") + Check.section(0, "0"));
        answers(x, 10, 0, -1, -1, -1, 3, -1, -1, 13);
        answers(x, 10, 1, -1, -1, -1, 0, -1, -1, 22);
        answers(x, 10, 2);
    }

    private static void wrongArguments() {
        int[] kinds = {-1, 0, 11, 12, 13, Integer.MIN_VALUE, Integer.MAX_VALUE};
        ModuleBytes small = smallModule();
        for (int kind : kinds) {
            answers(small, kind, 0);
        }
        int[] places = {-1, 1, 2, Integer.MIN_VALUE, Integer.MAX_VALUE, 1 << 29};
        for (int kind = 0; kind <= 10; kind++) {
            // One object for each kind, since no more than 512 calls are promised.
            ModuleBytes x = smallModule();
            for (int k : places) {
                answers(x, kind, k);
            }
        }
    }

    private static ModuleBytes smallModule() {
        return Check.module(Check.section(1, "1 96 1 127 1 127") + Check.section(9, "1 1 0 1 6"));
    }
}
