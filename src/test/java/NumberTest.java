/** Promise 3: numbers in groups of seven bits, and fault 4. */
public final class NumberTest {
    public static void main(String[] args) {
        unsigned();
        signed(65, 32, 5);
        signed(66, 64, 10);
        blockTypes();
        Check.finish();
    }

    private static void unsigned() {
        startIs(0, "0");
        startIs(0, "128 0");
        startIs(0, "128 128 128 128 0");
        startIs(127, "127");
        startIs(128, "128 1");
        startIs(624485, "229 142 38");
        startIs(4294967295L, "255 255 255 255 15");
        startIs(2147483648L, "128 128 128 128 8");
        for (int fifth = 16; fifth < 256; fifth++) {
            Check.fault(4, 6, "8 5 128 128 128 128 " + fifth);
        }
        Check.fault(4, 5, "0 128 128 128 128 128 0");
        Check.fault(4, 7, "10 7 1 128 128 128 128 16 0");
        Check.fault(4, 6, "8 6 255 255 255 255 31 0");
    }

    private static void startIs(long start, String number) {
        Check.due("many(12) of " + number, Check.module(Check.section(8, number)).many(12), start);
    }

    /** A global whose expression is one constant, whose last possible byte is each one in turn. */
    private static void signed(int code, int bits, int most) {
        for (int length = 1; length < most; length++) {
            for (int last = 0; last < 128; last++) {
                String number = "128 ".repeat(length - 1) + last;
                Check.module(Check.section(6, "1 127 0 " + code + " " + number + " 11"));
            }
        }
        int own = bits - 7 * (most - 1);
        for (int last = 0; last < 256; last++) {
            // The bits from the number's highest one on are all 0 or all 1, and no byte follows.
            boolean good = last < 1 << own - 1 || last >= 128 - (1 << own - 1) && last < 128;
            String sections = Check.section(6, "1 127 0 " + code + " " + "255 ".repeat(most - 1) + last + " 11");
            if (good) {
                Check.module(sections);
            } else {
                Check.fault(4, 5 + most, sections);
            }
        }
    }

    private static void blockTypes() {
        for (int one = 0; one < 128; one++) {
            boolean type = one == 64 || one >= 124 || one == 112 || one == 111;
            String sections = Check.section(6, "1 127 0 2 " + one + " 11 11");
            if (one < 64 || type) {
                Check.module(sections);
            } else {
                Check.fault(8, 6, sections);
            }
        }
        blockType(0, 0, "128 0");
        blockType(0, 0, "192 0");
        // The highest bit of the last byte tells the sign, however many bytes there are.
        for (int more = 1; more < 4; more++) {
            blockType(0, 0, "255 ".repeat(more) + "63");
            blockType(8, 6, "128 ".repeat(more) + "64");
            blockType(8, 6, "192 ".repeat(more) + "127");
        }
        blockType(8, 6, "192 127");
        blockType(8, 6, "255 127");
        blockType(8, 6, "240 127");
        blockType(8, 6, "255 255 255 255 127");
        blockType(8, 6, "128 128 128 128 112");
        blockType(0, 0, "255 255 255 255 15");
        blockType(0, 0, "128 128 128 128 0");
        for (int fifth = 16; fifth < 112; fifth++) {
            blockType(4, 10, "128 128 128 128 " + fifth);
        }
        for (int fifth = 128; fifth < 256; fifth++) {
            blockType(4, 10, "255 255 255 255 " + fifth);
        }
        Check.fault(1, 6, "6 4 1 127 0 2");
        Check.fault(1, 7, "6 5 1 127 0 4 255 64");
    }

    private static void blockType(int fault, int place, String number) {
        for (int code = 2; code <= 4; code++) {
            String sections = Check.section(6, "1 127 0 " + code + " " + number + " 11 11");
            if (fault == 0) {
                Check.module(sections);
            } else {
                Check.fault(fault, place, sections);
            }
        }
    }
}
