/** Promise 3: reading goes byte by byte and stops at the first fault, though there are others behind it. */
public final class FirstFaultTest {
    private static final String WRONG_NUMBER = "128 128 128 128 16 ";

    public static void main(String[] args) {
        beginnings();
        idsAndLengths();
        contentsAheadOfTheEnd();
        names();
        locals();
        instructions();
        counts();
        Check.finish();
    }

    private static void beginnings() {
        whole(5, 0, "1 97 115 109 1 0 0 0 13");
        whole(5, 7, "0 97 115 109 1 0 0 1");
        whole(5, 1, "0 0 0 0");
        whole(5, 3, "0 97 115 110");
        whole(1, 3, "0 97 115");
        whole(1, 0, "");
        whole(5, 0, "255*2000");
    }

    private static void idsAndLengths() {
        Check.fault(6, 0, "13 " + WRONG_NUMBER);
        Check.fault(6, 3, Check.section(1, "0") + "1 100");
        Check.fault(6, 3, Check.section(10, "0") + "12 100");
        Check.fault(4, 5, "1 " + WRONG_NUMBER);
        Check.fault(1, 3, "1 128 128");
        Check.fault(2, 1, "1 5 1 95 0 0");
        Check.fault(2, 1, "3 2 128");
        Check.fault(4, 7, Check.section(10, "1 " + WRONG_NUMBER + "255"));
        Check.fault(2, 3, Check.section(10, "1 4 1 1 3"));
        // A section with a fault is not yet left when the next one comes too late.
        Check.fault(3, 3, Check.section(2, "0 0") + Check.section(1, "0"));
    }

    private static void contentsAheadOfTheEnd() {
        Check.fault(8, 3, "1 3 1 95 0");
        Check.fault(8, 5, "1 9 2 96 2 1 127 0 0 0 0");
        Check.fault(7, 4, "4 4 2 112 2 0");
        Check.fault(8, 3, "4 4 1 127 2 0");
        Check.fault(7, 3, Check.section(9, "1 8 " + WRONG_NUMBER));
        Check.fault(7, 3, Check.section(11, "2 3 " + WRONG_NUMBER));
        Check.fault(7, 4, Check.section(9, "1 1 112 255"));
        Check.fault(4, 8, Check.section(9, "1 2 " + WRONG_NUMBER + "255"));
        Check.fault(10, 5, Check.section(9, "1 2 0 255 1 0"));
        // The innermost part is left first.
        Check.fault(3, 6, Check.section(10, "1 3 0 11 0 0 0"));
        // A row is read as far as its bytes go, however many things it says it has.
        Check.fault(8, 12, Check.section(1, "255 255 255 255 15 96 0 0 96 1 3 0 0"));
        Check.fault(1, 13, Check.section(1, "255 255 255 255 15 96 0 0 96 0 0"));
        Check.fault(1, 13, Check.section(3, "255 255 255 255 15 1 2 3 4 5 6"));
        Check.fault(1, 9, Check.section(0, "255 255 255 255 15 97 98"));
    }

    private static void names() {
        // The bytes of a name are read ahead of its characters, and these ahead of what is behind the name.
        Check.fault(1, 6, Check.section(0, "4 255 97 97"));
        Check.fault(9, 4, Check.section(2, "1 1 255"));
        Check.fault(9, 4, Check.section(2, "1 1 255 9 255"));
        Check.fault(9, 5, Check.section(2, "1 0 1 255 9"));
        Check.fault(9, 4, Check.section(2, "1 2 255 254 0 9"));
        Check.fault(9, 4, Check.section(7, "1 1 255 4"));
        Check.fault(9, 5, Check.section(7, "1 4 97 194 97 255 4"));
        Check.fault(4, 7, Check.section(2, "1 " + WRONG_NUMBER + "255"));
    }

    private static void locals() {
        String most = "255 255 255 255 15 127 ";
        String tooMany = "2 " + most + most;
        Check.fault(12, 4, Check.section(10, "1 " + Check.sized(tooMany)));
        Check.fault(12, 4, Check.section(10, "1 " + Check.sized(tooMany + "255 11")));
        Check.fault(12, 4, Check.section(10, "1 " + Check.sized(tooMany + "11 11")));
        Check.fault(1, 17, Check.section(10, "1 " + Check.sized("3 " + most + most)));
        Check.fault(8, 18, Check.section(10, "1 " + Check.sized("3 " + most + most + "0 0 11")));
        Check.fault(4, 21, Check.section(10, "1 " + Check.sized("3 " + most + most + WRONG_NUMBER + "0 11")));
        // Where the U32 begins that tells how many rows there are, also when it is longer than it must be.
        Check.fault(12, 7, Check.section(10, "2 2 0 11 " + Check.sized("130 0 " + most + "1 126 11")));
        // The number of locals does not wrap around.
        Check.fault(12, 4, Check.section(10, "1 " + Check.sized("3 " + most + most + "2 127 11")));
        Check.fault(12, 6, Check.section(10, "1 " + Check.sized("100 " + most.repeat(100) + "11")));
    }

    private static void instructions() {
        Check.fault(10, 5, Check.section(6, "1 127 0 6 11 0"));
        Check.fault(10, 5, Check.section(6, "1 127 0 252 18"));
        Check.fault(4, 10, Check.section(6, "1 127 0 252 136 128 128 128 16 11"));
        Check.fault(1, 7, Check.section(6, "1 127 0 252 136"));
        Check.fault(11, 5, Check.section(6, "1 127 0 252 8"));
        Check.fault(11, 5, Check.section(6, "1 127 0 252 9 " + WRONG_NUMBER));
        Check.fault(11, 5, Check.section(6, "1 127 0 252 137 128 128 128 0"));
        Check.fault(1, 7, Check.section(6, "1 127 0 252 16"));
        Check.fault(7, 6, Check.section(6, "1 127 0 63 1 255"));
        Check.fault(10, 5, Check.section(6, "1 127 0 5 255"));
        Check.fault(8, 6, Check.section(6, "1 127 0 2 65 5"));
        Check.fault(4, 10, Check.section(6, "1 127 0 2 128 128 128 128 32 5"));
    }

    /** What is counted over the whole module is looked at when all of it has been read. */
    private static void counts() {
        String function = Check.section(3, "1 0");
        String body = Check.section(10, "1 2 0 11");
        String count = Check.section(12, "1");
        Check.fault(13, 7, function + count);
        Check.fault(13, 10, function + count + Check.section(0, "0"));
        Check.fault(6, 7, function + count + "13");
        Check.fault(1, 8, function + count + "10");
        Check.fault(14, 13, function + count + body);
        Check.fault(14, 16, function + count + body + Check.section(11, "0"));
        Check.fault(14, 20, function + count + body + Check.section(11, "2 1 0 1 0"));
        Check.fault(13, 14, function + count + Check.section(10, "0") + Check.section(0, "1 97"));
        Check.fault(13, 12, count + body + Check.section(11, "0"));
        Check.fault(13, 13, function + Check.section(10, "2 2 0 11 2 0 11"));
        Check.module(function + count + body + Check.section(11, "1 1 0"));
        // An imported function has no body.
        Check.module(Check.section(2, "1 0 0 0 0"));
        Check.fault(13, 13, Check.section(2, "1 0 0 0 0") + body);
    }

    private static void whole(int fault, int place, String bytes) {
        ModuleBytes x = new ModuleBytes();
        Check.due("end of " + bytes, Check.read(x, bytes), fault);
        Check.due("place after " + bytes, x.place(), place);
    }
}
