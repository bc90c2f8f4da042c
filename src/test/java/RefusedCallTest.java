import java.util.List;

/** Promises 2 to 4: a call that is refused with -1 does nothing: the bytes, the module and the place stay. */
public final class RefusedCallTest {
    private static final String OLD = Check.HEAD + Check.section(1, "1 96 1 127 0") + Check.section(0, "2 97 98 9");
    private static final int[] WRONG_ENDS = {-1, -2, -2000, Integer.MIN_VALUE, Integer.MIN_VALUE + 1, Integer.MAX_VALUE};

    public static void main(String[] args) {
        fullOfBytes();
        withoutBytes();
        afterAFault();
        oneMoreThanThereAre();
        Check.finish();
    }

    /** With 2,000 bytes no more are taken, and those that are there are not changed. */
    private static void fullOfBytes() {
        ModuleBytes x = new ModuleBytes();
        Check.due("end of the old module", Check.read(x, OLD), 0);
        List<String> old = Answers.of(x);
        Check.feed(x, Check.HEAD + "0 197 15 195 15 " + "97*1987");
        for (int i = 0; i < 3; i++) {
            Check.due("feed of 2,020", x.feed(-1, -1, -1, -1, -1), -1);
            Check.due("end(2001)", x.end(2001), -1);
            Check.due("end(2020)", x.end(2020), -1);
            refuseEnds(x);
        }
        Check.due("place()", x.place(), -1);
        Answers.compare("after refused calls", Answers.of(x), old);
        Check.due("end(2000)", x.end(2000), 0);
        Check.due("name(10, 0, 0, -1)", x.name(10, 0, 0, -1), 1987);
        Check.due("name(10, 0, 0, 0)", x.name(10, 0, 0, 0), 97);
        Check.due("name(10, 0, 0, 1986)", x.name(10, 0, 0, 1986), 97);
        Check.due("name(10, 0, 0, 1987)", x.name(10, 0, 0, 1987), -1);
        Check.due("feed of 20", x.feed(-1, -1, -1, -1, -1), 20);
    }

    private static void withoutBytes() {
        ModuleBytes x = new ModuleBytes();
        refuseEnds(x);
        Check.due("end(1)", x.end(1), -1);
        Check.due("place()", x.place(), -1);
        Check.due("end of the old module", Check.read(x, OLD), 0);
        List<String> old = Answers.of(x);
        refuseEnds(x);
        Check.due("end(1)", x.end(1), -1);
        Check.due("end(20)", x.end(20), -1);
        Check.due("place()", x.place(), -1);
        Answers.compare("after refused ends", Answers.of(x), old);
        // An end() of no bytes is not refused: the module's first byte is not there.
        Check.due("end(0)", x.end(0), 1);
        Check.due("place()", x.place(), 0);
        Answers.compare("after end(0)", Answers.of(x), old);
    }

    private static void afterAFault() {
        ModuleBytes x = new ModuleBytes();
        Check.due("end of the old module", Check.read(x, OLD), 0);
        List<String> old = Answers.of(x);
        Check.due("end of a fault", Check.read(x, Check.HEAD + "1 4 1 96 0 2"), 1);
        Check.due("place()", x.place(), 14);
        refuseEnds(x);
        Check.due("place() after refused ends", x.place(), 14);
        Answers.compare("after a fault", Answers.of(x), old);
        x.feed(0x0061736d, 0x01000000, 0, 0, 0);
        refuseEnds(x);
        Check.due("end(21)", x.end(21), -1);
        Check.due("place() after refused ends", x.place(), 14);
        Check.due("end(8)", x.end(8), 0);
        Check.due("place()", x.place(), -1);
    }

    /** Bytes come by twenties: all of them may be read, and one more may not. */
    private static void oneMoreThanThereAre() {
        for (int fed = 20; fed <= 2000; fed += 20) {
            ModuleBytes x = new ModuleBytes();
            Check.feed(x, Check.HEAD + "255*" + (fed - 8));
            Check.due("end(" + (fed + 1) + ")", x.end(fed + 1), -1);
            Check.due("end(" + fed + ")", x.end(fed), 6);
            Check.due("place()", x.place(), 8);
            Check.due("end(1), the bytes are gone", x.end(1), -1);
        }
    }

    private static void refuseEnds(ModuleBytes x) {
        for (int n : WRONG_ENDS) {
            Check.due("end(" + n + ")", x.end(n), -1);
        }
    }
}
