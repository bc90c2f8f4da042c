/** Promise 5: how many of each kind the module has. */
public final class ManyTest {
    public static void main(String[] args) {
        String sections = Check.section(0, "0")
            + Check.section(1, "2 96 0 0 96 0 0")
            + Check.section(2, "4 0 0 0 0 0 0 1 112 0 0 0 0 2 0 0 0 0 3 127 0")
            + Check.section(3, "3 0 0 0")
            + Check.section(4, "5 112 0 0 112 0 0 112 0 0 112 0 0 112 0 0")
            + Check.section(5, "6 0 0 0 0 0 0 0 0 0 0 0 0")
            + Check.section(6, "7 127 0 11 127 0 11 127 0 11 127 0 11 127 0 11 127 0 11 127 0 11")
            + Check.section(7, "8 " + "0 0 0 ".repeat(8))
            + Check.section(8, "255 255 255 255 15")
            + Check.section(9, "9 " + "1 0 0 ".repeat(9))
            + Check.section(12, "10")
            + Check.section(10, "3 2 0 11 2 0 11 2 0 11")
            + Check.section(11, "10 " + "1 0 ".repeat(10))
            + Check.section(0, "1 97 5");
        ModuleBytes x = Check.module(sections);
        long[] due = {2, 4, 3, 5, 6, 7, 8, 9, 3, 10, 2, 14, 4294967295L, 10};
        for (int what = 0; what < due.length; what++) {
            Check.due("many(" + what + ")", x.many(what), due[what]);
        }
        others(x);
        ModuleBytes empty = Check.module("");
        for (int what = 0; what <= 11; what++) {
            Check.due("many(" + what + ") of an empty module", empty.many(what), 0);
        }
        Check.due("many(12) without a start", empty.many(12), -1);
        Check.due("many(13) without a section 12", empty.many(13), -1);
        others(empty);
        Check.due("many(12)", Check.module(Check.section(8, "0")).many(12), 0);
        Check.due("many(13)", Check.module(Check.section(12, "0")).many(13), 0);
        oneModuleAfterTheOther();
        Check.finish();
    }

    private static void oneModuleAfterTheOther() {
        ModuleBytes x = new ModuleBytes();
        String full = Check.section(1, "1 96 0 0") + Check.section(8, "7") + Check.section(12, "1") + Check.section(11, "1 1 0");
        for (int round = 0; round < 4; round++) {
            Check.due("end of a full module", Check.read(x, Check.HEAD + full), 0);
            Check.due("many(11)", x.many(11), 4);
            Check.due("many(12)", x.many(12), 7);
            Check.due("many(13)", x.many(13), 1);
            // A fault behind the sections must leave nothing for the next reading either.
            Check.due("end of a fault", Check.read(x, Check.HEAD + full + "0"), 1);
            Check.due("many(11)", x.many(11), 4);
            Check.due("end of a small module", Check.read(x, Check.HEAD + Check.section(11, "2 1 0 1 0")), 0);
            Check.due("many(0)", x.many(0), 0);
            Check.due("many(9)", x.many(9), 2);
            Check.due("many(11)", x.many(11), 1);
            Check.due("many(12)", x.many(12), -1);
            Check.due("many(13)", x.many(13), -1);
            if (round == 1) {
                Check.due("end of one more", Check.read(x, Check.HEAD), 0);
                Check.due("many(11)", x.many(11), 0);
            }
        }
    }

    private static void others(ModuleBytes x) {
        int[] others = {-1, -2, 14, 15, 100, Integer.MIN_VALUE, Integer.MAX_VALUE};
        for (int what : others) {
            Check.due("many(" + what + ")", x.many(what), -1);
        }
    }
}
