/** Promise 2: twenty bytes a call, the highest of each number first, 2,000 at most. */
public final class FeedTest {
    public static void main(String[] args) {
        orderOfBytes();
        atMostTwoThousand();
        goneAfterEnd();
        keptAfterRefusedEnd();
        Check.finish();
    }

    private static void orderOfBytes() {
        ModuleBytes x = new ModuleBytes();
        Check.due("feed", x.feed(0x0061736d, 0x01000000, 0x001e0102, 0x03040506, 0x0708090a), 20);
        // The section of 30 bytes: a name of one byte (2), then 3 .. 10 and twenty more.
        Check.due("feed", x.feed(0x80818283, -1, 0x7fffffff, 0x80000000, 0x0b0c0d0e), 40);
        Check.due("end(40)", x.end(40), 0);
        Check.due("name(10, 0, 0, 0)", x.name(10, 0, 0, 0), 2);
        Check.due("look(10, 0, 3)", x.look(10, 0, 3), 28);
        Check.due("look(10, 0, 6)", x.look(10, 0, 6), 12);
        ModuleBytes y = new ModuleBytes();
        y.feed(0x0061736d, 0x01000000, 0x000b0a61, 0x62636465, 0x66676869);
        y.feed(0x6a000000, 0, 0, 0, 0);
        Check.due("end(21)", y.end(21), 0);
        for (int i = 0; i < 10; i++) {
            Check.due("name(10, 0, 0, " + i + ")", y.name(10, 0, 0, i), 97 + i);
        }
        ModuleBytes z = new ModuleBytes();
        z.feed(0x0061736d, 0x01000000, 0x00050461, 0xc3bf7f00, 0);
        Check.due("end(15)", z.end(15), 0);
        Check.due("name(10, 0, 0, 1)", z.name(10, 0, 0, 1), 195);
        Check.due("name(10, 0, 0, 2)", z.name(10, 0, 0, 2), 191);
    }

    private static void atMostTwoThousand() {
        ModuleBytes x = new ModuleBytes();
        Check.due("feed", x.feed(0x0061736d, 0x01000000, 0x00c50f00, 0, 0), 20);
        for (int i = 2; i <= 100; i++) {
            Check.due("feed", x.feed(i, 0, 0, 0, i), 20 * i);
        }
        Check.due("feed of 2,020", x.feed(-1, -1, -1, -1, -1), -1);
        Check.due("feed of 2,020 again", x.feed(-1, -1, -1, -1, -1), -1);
        Check.due("end(2001)", x.end(2001), -1);
        Check.due("end(2000)", x.end(2000), 0);
        Check.due("look(10, 0, 3)", x.look(10, 0, 3), 1988);
    }

    private static void goneAfterEnd() {
        ModuleBytes x = new ModuleBytes();
        for (int i = 0; i < 100; i++) {
            x.feed(0, 0, 0, 0, 0);
        }
        Check.due("end(3)", x.end(3), 5);
        Check.due("feed after end", x.feed(0, 0, 0, 0, 0), 20);
        Check.due("end(21)", x.end(21), -1);
        Check.due("end(20)", x.end(20), 5);
        Check.due("end(1)", x.end(1), -1);
    }

    private static void keptAfterRefusedEnd() {
        ModuleBytes x = new ModuleBytes();
        x.feed(0x0061736d, 0x01000000, 0, 0, 0);
        Check.due("end(21)", x.end(21), -1);
        Check.due("end(-1)", x.end(-1), -1);
        Check.due("end(min)", x.end(Integer.MIN_VALUE), -1);
        Check.due("end(max)", x.end(Integer.MAX_VALUE), -1);
        Check.due("feed", x.feed(0, 0, 0, 0, 0), 40);
        Check.due("end(8)", x.end(8), 0);
    }
}
