/** Promises 5 to 8: modules of about 2,000 bytes, with as many of one kind as there can be; the first, the last, and one more. */
public final class FullModuleTest {
    public static void main(String[] args) {
        types();
        imports();
        functionsAndBodies();
        tablesMemoriesGlobals();
        exports();
        elements();
        locals();
        data();
        sections();
        names();
        Check.finish();
    }

    private static ModuleBytes rows(int id, int many, String one) {
        return Check.module(Check.section(id, Check.u32(many) + one.repeat(many)));
    }

    private static void types() {
        ModuleBytes x = rows(1, 662, "96 0 0 ");
        Check.due("many(0)", x.many(0), 662);
        Check.due("type(661, 1, -1)", x.type(661, 1, -1), 0);
        Check.due("type(661, 1, 0)", x.type(661, 1, 0), -1);
        Check.due("type(662, 1, -1)", x.type(662, 1, -1), -1);
        String parameters = "96 " + Check.u32(1980) + "127*1979 124 1 111";
        ModuleBytes y = Check.module(Check.section(1, "1 " + parameters));
        Check.due("type(0, 0, -1)", y.type(0, 0, -1), 1980);
        Check.due("type(0, 0, 1978)", y.type(0, 0, 1978), 127);
        Check.due("type(0, 0, 1979)", y.type(0, 0, 1979), 124);
        Check.due("type(0, 0, 1980)", y.type(0, 0, 1980), -1);
        Check.due("type(0, 1, 0)", y.type(0, 1, 0), 111);
        ModuleBytes z = Check.module(Check.section(1, "1 96 0 " + Check.u32(1980) + "112 126*1979"));
        Check.due("type(0, 1, 0)", z.type(0, 1, 0), 112);
        Check.due("type(0, 1, 1979)", z.type(0, 1, 1979), 126);
        Check.due("type(0, 1, 1980)", z.type(0, 1, 1980), -1);
    }

    private static void imports() {
        ModuleBytes x = rows(2, 496, "0 0 0 7 ");
        Check.due("many(1)", x.many(1), 496);
        Check.due("look(1, 495, 1)", x.look(1, 495, 1), 7);
        Check.due("look(1, 496, 1)", x.look(1, 496, 1), -1);
        Check.due("name(1, 495, 1, -1)", x.name(1, 495, 1, -1), 0);
        Check.due("name(1, 496, 1, -1)", x.name(1, 496, 1, -1), -1);
        // What is imported is none of the module's own.
        for (int what = 2; what <= 5; what++) {
            Check.due("many(" + what + ")", x.many(what), 0);
        }
    }

    private static void functionsAndBodies() {
        ModuleBytes x = Check.module(Check.section(3, Check.u32(490) + "0*489 9")
            + Check.section(10, Check.u32(490) + "2 0 11 ".repeat(490)));
        Check.due("many(2)", x.many(2), 490);
        Check.due("many(8)", x.many(8), 490);
        Check.due("look(2, 489, 0)", x.look(2, 489, 0), 9);
        Check.due("look(2, 490, 0)", x.look(2, 490, 0), -1);
        int end = 8 + 5 + 490 + 5 + 3 * 490;
        Check.due("look(8, 489, 4)", x.look(8, 489, 4), end - 1);
        Check.due("look(8, 489, 5)", x.look(8, 489, 5), end);
        Check.due("look(8, 490, 5)", x.look(8, 490, 5), -1);
    }

    private static void tablesMemoriesGlobals() {
        ModuleBytes tables = rows(4, 662, "111 0 3 ");
        Check.due("many(3)", tables.many(3), 662);
        Check.due("look(3, 661, 2)", tables.look(3, 661, 2), 3);
        Check.due("look(3, 662, 2)", tables.look(3, 662, 2), -1);
        ModuleBytes memories = rows(5, 993, "0 4 ");
        Check.due("many(4)", memories.many(4), 993);
        Check.due("look(4, 992, 2)", memories.look(4, 992, 2), 4);
        Check.due("look(4, 993, 2)", memories.look(4, 993, 2), -1);
        ModuleBytes globals = rows(6, 662, "125 1 11 ");
        Check.due("many(5)", globals.many(5), 662);
        Check.due("look(5, 661, 1)", globals.look(5, 661, 1), 125);
        Check.due("look(5, 661, 5)", globals.look(5, 661, 5), 8 + 5 + 3 * 662);
        Check.due("look(5, 662, 5)", globals.look(5, 662, 5), -1);
    }

    private static void exports() {
        ModuleBytes x = rows(7, 662, "0 3 5 ");
        Check.due("many(6)", x.many(6), 662);
        Check.due("look(6, 661, 0)", x.look(6, 661, 0), 3);
        Check.due("look(6, 661, 1)", x.look(6, 661, 1), 5);
        Check.due("look(6, 662, 1)", x.look(6, 662, 1), -1);
        Check.due("name(6, 661, 0, -1)", x.name(6, 661, 0, -1), 0);
        Check.due("name(6, 662, 0, -1)", x.name(6, 662, 0, -1), -1);
    }

    private static void elements() {
        ModuleBytes many = rows(9, 496, "1 0 1 6 ");
        Check.due("many(7)", many.many(7), 496);
        Check.due("look(7, 495, 8)", many.look(7, 495, 8), 6);
        Check.due("look(7, 495, 9)", many.look(7, 495, 9), -1);
        Check.due("look(7, 496, 8)", many.look(7, 496, 8), -1);
        ModuleBytes expressions = Check.module(Check.section(9, "1 5 111 " + Check.u32(1984) + "11*1984"));
        Check.due("look(7, 0, 3)", expressions.look(7, 0, 3), 1984);
        Check.due("look(7, 0, 8)", expressions.look(7, 0, 8), 16);
        Check.due("look(7, 0, 8 + 1983)", expressions.look(7, 0, 8 + 1983), 1999);
        Check.due("look(7, 0, 8 + 1984)", expressions.look(7, 0, 8 + 1984), -1);
        // The lists of two elements do not run into one another.
        ModuleBytes two = Check.module(Check.section(9, "3 1 0 2 5 6 1 0 0 3 0 2 7 8"));
        Check.due("look(7, 0, 10)", two.look(7, 0, 10), -1);
        Check.due("look(7, 1, 8)", two.look(7, 1, 8), -1);
        Check.due("look(7, 2, 8)", two.look(7, 2, 8), 7);
        Check.due("look(7, 2, 10)", two.look(7, 2, 10), -1);
    }

    private static void locals() {
        ModuleBytes x = Check.module(Check.section(3, "1 0") + Check.section(10, "1 "
            + Check.sized(Check.u32(980) + "2 127 ".repeat(979) + "5 112 11")));
        Check.due("look(8, 0, 0)", x.look(8, 0, 0), 980);
        Check.due("look(8, 0, 1)", x.look(8, 0, 1), 2 * 979 + 5);
        Check.due("look(8, 0, 8)", x.look(8, 0, 8), 2);
        Check.due("look(8, 0, 8 + 2 * 979)", x.look(8, 0, 8 + 2 * 979), 5);
        Check.due("look(8, 0, 9 + 2 * 979)", x.look(8, 0, 9 + 2 * 979), 112);
        Check.due("look(8, 0, 8 + 2 * 980)", x.look(8, 0, 8 + 2 * 980), -1);
        Check.due("look(8, 0, 9 + 2 * 980)", x.look(8, 0, 9 + 2 * 980), -1);
        // The greatest number of locals, in two rows and with an empty one.
        ModuleBytes y = Check.module(Check.section(3, "1 0") + Check.section(10, "1 "
            + Check.sized("3 254 255 255 255 15 127 0 126 1 111 11")));
        Check.due("look(8, 0, 1)", y.look(8, 0, 1), 4294967295L);
        Check.due("look(8, 0, 8)", y.look(8, 0, 8), 4294967294L);
        Check.due("look(8, 0, 10)", y.look(8, 0, 10), 0);
        Check.due("look(8, 0, 13)", y.look(8, 0, 13), 111);
    }

    private static void data() {
        ModuleBytes many = rows(11, 993, "1 0 ");
        Check.due("look(9, 992, 6)", many.look(9, 992, 6), 8 + 5 + 2 * 993);
        Check.due("look(9, 993, 6)", many.look(9, 993, 6), -1);
        ModuleBytes long1 = Check.module(Check.section(11, "1 1 " + Check.u32(1985) + "255*1985"));
        Check.due("look(9, 0, 3)", long1.look(9, 0, 3), 1985);
        Check.due("look(9, 0, 6)", long1.look(9, 0, 6), 15);
        ModuleBytes empty = Check.module(Check.section(11, "3 1 0 0 11 0 2 7 11 0"));
        Check.due("look(9, 0, 6)", empty.look(9, 0, 6), 13);
        Check.due("look(9, 1, 6)", empty.look(9, 1, 6), 16);
        Check.due("look(9, 2, 6)", empty.look(9, 2, 6), 20);
    }

    private static void sections() {
        ModuleBytes x = Check.module("0 1 0 ".repeat(664));
        Check.due("many(10)", x.many(10), 664);
        Check.due("many(11)", x.many(11), 664);
        Check.due("look(10, 663, 3)", x.look(10, 663, 3), 0);
        Check.due("look(10, 663, 6)", x.look(10, 663, 6), 2000);
        Check.due("look(10, 664, 6)", x.look(10, 664, 6), -1);
        ModuleBytes one = Check.module("0 197 15 0 " + "255*1988");
        Check.due("look(10, 0, 3)", one.look(10, 0, 3), 1988);
        Check.due("look(10, 0, 6)", one.look(10, 0, 6), 12);
    }

    private static void names() {
        ModuleBytes x = Check.module(Check.section(7, "1 " + Check.u32(1982) + "97*1980 195 191 0 5"));
        Check.due("name(6, 0, 0, -1)", x.name(6, 0, 0, -1), 1982);
        Check.due("name(6, 0, 0, 1981)", x.name(6, 0, 0, 1981), 191);
        Check.due("name(6, 0, 0, 1982)", x.name(6, 0, 0, 1982), -1);
        // The last character of a name needs all its bytes within the name.
        Check.fault(9, 3 + 2 + 1 + 1981, Check.section(7, "1 " + Check.u32(1982) + "97*1981 195 191 5"));
        ModuleBytes y = Check.module(Check.section(0, Check.u32(1987) + "98*1987"));
        Check.due("name(10, 0, 0, -1)", y.name(10, 0, 0, -1), 1987);
        Check.due("name(10, 0, 0, 1986)", y.name(10, 0, 0, 1986), 98);
        Check.due("name(10, 0, 0, 1987)", y.name(10, 0, 0, 1987), -1);
        Check.due("look(10, 0, 3)", y.look(10, 0, 3), 0);
        Check.due("look(10, 0, 6)", y.look(10, 0, 6), 2000);
    }
}
