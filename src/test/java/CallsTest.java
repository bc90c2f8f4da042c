/** The 512 calls that an object is used for: the last of them is answered like the first. */
public final class CallsTest {
    private static final int MOST_CALLS = 512;

    private static ModuleBytes x;
    private static int calls;

    public static void main(String[] args) {
        fullModules();
        oneFeedOneEnd();
        endsAlone();
        looksAlone();
        Check.finish();
    }

    private static void begin() {
        x = new ModuleBytes();
        calls = 0;
    }

    private static void read(String text, int fault, int place) {
        int length = Check.length(text);
        Check.feed(x, text);
        Check.due("end after " + calls + " calls", x.end(length), fault);
        Check.due("place after " + calls + " calls", x.place(), fault == 0 ? -1 : place);
        calls += (length + 19) / 20 + 2;
    }

    /** Five times 2,000 bytes, of another kind each time. */
    private static void fullModules() {
        begin();
        read(Check.HEAD + "0 1 0 ".repeat(664), 0, -1);
        read(Check.HEAD + Check.section(5, Check.u32(993) + "0 4 ".repeat(993)), 0, -1);
        read(Check.HEAD + Check.section(1, Check.u32(662) + "96 0 0 ".repeat(662) + "0"), 3, 1999);
        read(Check.HEAD + Check.section(3, Check.u32(1987) + "0*1987"), 13, 2000);
        // The two readings that failed have left the module as it was.
        due("many(4)", x.many(4), 993);
        read(Check.HEAD + Check.section(9, "1 1 0 " + Check.u32(1984) + "3*1984"), 0, -1);
        due("look(7, 0, 8 + 1983)", x.look(7, 0, 8 + 1983), 3);
        Check.due("calls", calls, MOST_CALLS);
    }

    private static void oneFeedOneEnd() {
        begin();
        while (calls + 4 <= MOST_CALLS) {
            boolean good = calls % 8 == 0;
            due("feed", x.feed(0x0061736d, 0x01000000, good ? 0x08010700 : 0x08010900, 0, 0), 20);
            due("end(11)", x.end(good ? 11 : 12), good ? 0 : 1);
            due("place()", x.place(), good ? -1 : 12);
            due("many(12)", x.many(12), 7);
        }
        Check.due("calls", calls, MOST_CALLS);
    }

    private static void endsAlone() {
        begin();
        while (calls + 2 <= MOST_CALLS) {
            due("end(0)", x.end(0), 1);
            due("end(1)", x.end(1), -1);
        }
        Check.due("calls", calls, MOST_CALLS);
    }

    private static void looksAlone() {
        begin();
        read(Check.HEAD + Check.section(0, Check.named("abc")), 0, -1);
        while (calls + 3 <= MOST_CALLS) {
            due("name(10, 0, 0, 2)", x.name(10, 0, 0, 2), 'c');
            due("look(10, 0, 6)", x.look(10, 0, 6), 14);
            due("type(0, 0, -1)", x.type(0, 0, -1), -1);
        }
    }

    private static void due(String call, long got, long want) {
        calls++;
        Check.due(call + ", call " + calls, got, want);
    }
}
