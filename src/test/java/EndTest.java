/** Promise 3: what end() does, and the sections that a module may have. */
public final class EndTest {
    public static void main(String[] args) {
        beginning();
        latestModuleStays();
        orderOfSections();
        partsThatEnd();
        partsTooLong();
        partsWithBytesLeft();
        choices();
        types();
        counts();
        fullRooms();
        Check.finish();
    }

    private static void beginning() {
        int[] due = Check.bytes(Check.HEAD);
        for (int i = 0; i <= 8; i++) {
            ModuleBytes x = new ModuleBytes();
            Check.feed(x, Check.HEAD);
            Check.due("end(" + i + ")", x.end(i), i < 8 ? 1 : 0);
            Check.due("place()", x.place(), i < 8 ? i : -1);
        }
        for (int i = 0; i < 8; i++) {
            StringBuilder text = new StringBuilder();
            for (int j = 0; j < 8; j++) {
                text.append(i == j ? due[j] + 1 : due[j]).append(' ');
            }
            ModuleBytes x = new ModuleBytes();
            Check.due("end of " + text, Check.read(x, text.toString()), 5);
            Check.due("place()", x.place(), i);
        }
    }

    private static void latestModuleStays() {
        ModuleBytes x = Check.module(Check.section(1, "2 96 1 127 0 96 0 0"));
        Check.due("a fault", Check.read(x, Check.HEAD + "1 4 1 96 0 5"), 1);
        Check.due("many(0)", x.many(0), 2);
        Check.due("type(0, 0, 0)", x.type(0, 0, 0), 127);
        Check.feed(x, Check.HEAD + Check.section(1, "1 96 0 1 126"));
        Check.due("type(0, 0, 0) while feeding", x.type(0, 0, 0), 127);
        Check.due("end(15)", x.end(15), 0);
        Check.due("many(0)", x.many(0), 1);
        Check.due("type(0, 0, 0)", x.type(0, 0, 0), -1);
        Check.due("type(0, 1, 0)", x.type(0, 1, 0), 126);
        Check.due("a module of nothing", Check.read(x, Check.HEAD), 0);
        Check.due("many(0)", x.many(0), 0);
    }

    private static void orderOfSections() {
        int[] order = {1, 2, 3, 4, 5, 6, 7, 8, 9, 12, 10, 11};
        StringBuilder all = new StringBuilder(Check.section(0, "0"));
        for (int id : order) {
            all.append(Check.section(id, "0")).append(Check.section(0, "0 9 9"));
        }
        Check.due("many(11)", Check.module(all.toString()).many(11), 25);
        for (int i = 0; i < order.length; i++) {
            for (int j = 0; j < order.length; j++) {
                String two = Check.section(order[i], "0") + Check.section(order[j], "0");
                if (i < j) {
                    Check.module(two);
                } else {
                    Check.fault(6, 3, two);
                }
            }
        }
        for (int id = 13; id < 256; id++) {
            Check.fault(6, 0, id + "");
        }
        Check.fault(6, 6, Check.section(1, "0") + Check.section(0, "0") + "1 255");
    }

    private static void partsThatEnd() {
        Check.fault(1, 1, "0");
        Check.fault(1, 2, "0 0");
        Check.fault(1, 2, "0 128");
        Check.fault(1, 3, "0 1 1");
        Check.fault(1, 3, "0 1 1 0 0 0");
        Check.fault(1, 4, "0 2 128 128 0");
        Check.fault(1, 4, "1 2 1 96");
        Check.fault(1, 6, "1 4 1 96 1 127 0 0");
        Check.fault(1, 3, "1 1 1 96 0 0");
        Check.fault(1, 2, "8 0");
        Check.fault(1, 2, "12 0");
        Check.fault(1, 3, "12 1 128 0");
        Check.fault(1, 6, "6 4 1 127 0 65 0 11");
        Check.fault(1, 6, "10 5 1 2 0 65 0 11");
        Check.fault(1, 6, "10 4 1 2 0 65 0");
        Check.fault(1, 4, "10 3 1 0 11");
        Check.fault(1, 5, "11 3 1 1 1");
        Check.fault(1, 9, "11 7 1 1 255 255 255 255 15 ");
        Check.fault(1, 10, "11 8 1 1 255 255 255 255 15 7 8");
        Check.fault(1, 9, "2 7 1 1 97 255 255 3 97");
        Check.fault(1, 7, "6 5 1 127 0 67 1 2 3 4 11");
        Check.fault(1, 13, "6 11 1 127 0 68 1 2 3 4 5 6 7 8 11");
        Check.fault(1, 8, "3 6 255 255 255 255 15 0 ");
    }

    private static void partsTooLong() {
        Check.fault(2, 1, "1 1");
        Check.fault(2, 1, "0 5 0 0 0 0");
        Check.fault(2, 1, "0 255 255 255 255 15");
        Check.fault(2, 1, "0 133 0 0 0 0 0");
        Check.fault(2, 3, "10 4 1 3 0 11");
        Check.fault(2, 3, "10 4 1 3 0 11 0 0 0");
        Check.fault(2, 6, "10 6 2 2 0 11 2 0 11");
        Check.fault(2, 3, "10 8 1 255 255 255 255 15 0 11");
        Check.module(Check.section(3, "1 0") + "10 8 1 133 0 0 65 1 26 11");
    }

    private static void partsWithBytesLeft() {
        Check.fault(3, 3, "1 2 0 0");
        Check.fault(3, 6, "1 5 1 96 0 0 0");
        Check.fault(3, 3, "8 2 0 0");
        Check.fault(3, 3, "12 2 0 0");
        Check.fault(3, 6, "10 5 1 3 0 11 11");
        Check.fault(3, 6, "10 5 1 2 0 11 0");
        Check.fault(3, 5, "11 4 1 1 0 0");
        Check.module(Check.section(0, "0 1 2 3"));
    }

    private static void choices() {
        Check.fault(7, 5, "2 4 1 0 0 4");
        Check.fault(7, 5, "2 6 1 0 0 255 0 0");
        Check.fault(7, 6, "2 5 1 0 0 2 2 0");
        Check.fault(7, 7, "2 6 1 0 0 1 112 2");
        Check.fault(7, 7, "2 6 1 0 0 3 127 2");
        Check.fault(7, 4, "4 3 1 112 128");
        Check.fault(7, 3, "5 3 1 3 0");
        Check.fault(7, 4, "6 4 1 127 2 11");
        Check.fault(7, 4, "7 4 1 0 4 0");
        Check.fault(7, 3, "9 4 1 8 0 0");
        Check.fault(7, 3, "9 4 1 136 0 0");
        Check.fault(7, 3, "9 6 1 255 255 255 255 15");
        Check.fault(7, 4, "9 4 1 1 1 0");
        Check.fault(7, 4, "9 4 1 3 112 0");
        Check.fault(7, 6, "9 6 1 2 0 11 1 0");
        Check.fault(7, 3, "11 3 1 3 0");
        Check.fault(7, 3, "11 4 1 131 0 0");
        Check.fault(4, 7, "11 7 1 255 255 255 255 16 0");
        Check.module(Check.section(9, "1 135 0 112 0"));
        Check.module(Check.section(11, "1 129 128 0 0"));
    }

    private static void types() {
        int[] valueTypes = {127, 126, 125, 124, 112, 111};
        for (int code = 0; code < 256; code++) {
            boolean value = false;
            for (int one : valueTypes) {
                value |= one == code;
            }
            boolean reference = code == 112 || code == 111;
            oneType(code == 96, 3, Check.section(1, "1 " + code + " 0 0"));
            oneType(value, 5, Check.section(1, "1 96 1 " + code + " 0"));
            oneType(value, 6, Check.section(1, "1 96 0 1 " + code));
            oneType(reference, 6, Check.section(2, "1 0 0 1 " + code + " 0 0"));
            oneType(value, 6, Check.section(2, "1 0 0 3 " + code + " 0"));
            oneType(reference, 3, Check.section(4, "1 " + code + " 0 0"));
            oneType(value, 3, Check.section(6, "1 " + code + " 0 11"));
            oneType(reference, 4, Check.section(9, "1 5 " + code + " 0"));
            oneType(reference, 6, Check.section(9, "1 6 0 11 " + code + " 0"));
            oneType(reference, 4, Check.section(9, "1 7 " + code + " 0"));
            oneType(value, 10, Check.section(3, "1 0") + Check.section(10, "1 4 1 1 " + code + " 11"));
        }
    }

    private static void oneType(boolean may, int place, String sections) {
        if (may) {
            Check.module(sections);
        } else {
            Check.fault(8, place, sections);
        }
    }

    private static void counts() {
        Check.fault(13, 4, Check.section(3, "1 0"));
        Check.fault(13, 6, "10 4 1 2 0 11");
        Check.fault(13, 8, Check.section(3, "2 0 0") + Check.section(10, "0"));
        Check.fault(13, 7, Check.section(3, "1 0") + Check.section(12, "1"));
        Check.fault(14, 3, Check.section(12, "1"));
        Check.fault(14, 8, Check.section(12, "0") + Check.section(11, "1 1 0"));
        Check.fault(14, 7, "12 5 255 255 255 255 15");
        Check.module(Check.section(12, "0"));
        Check.module(Check.section(12, "1") + Check.section(11, "1 1 0"));
        Check.module(Check.section(11, "1 1 0"));
        Check.module(Check.section(3, "0"));
    }

    private static void fullRooms() {
        ModuleBytes x = new ModuleBytes();
        Check.due("functions", Check.read(x, Check.HEAD + Check.section(3, Check.u32(1987) + "0*1987")), 13);
        Check.due("place()", x.place(), 2000);
        Check.due("sections", Check.read(x, Check.HEAD + "0 1 0 ".repeat(664)), 0);
        Check.due("many(10)", x.many(10), 664);
        Check.due("look(10, 663, 6)", x.look(10, 663, 6), 2000);
        Check.due("data", Check.read(x, Check.HEAD + Check.section(11, Check.u32(993) + "1 0 ".repeat(993))), 0);
        Check.due("many(9)", x.many(9), 993);
        Check.due("many(10)", x.many(10), 0);
        Check.due("elements", Check.read(x, Check.HEAD + Check.section(9, "1 1 0 " + Check.u32(1984) + "3*1984")), 0);
        Check.due("look(7, 0, 8 + 1983)", x.look(7, 0, 8 + 1983), 3);
        Check.due("look(7, 0, 8 + 1984)", x.look(7, 0, 8 + 1984), -1);
    }
}
