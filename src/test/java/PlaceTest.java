/** Promise 4: the place of the latest fault. */
public final class PlaceTest {
    public static void main(String[] args) {
        ModuleBytes x = new ModuleBytes();
        Check.due("place() of a new object", x.place(), -1);
        x.feed(0x0061736d, 0x02000000, 0, 0, 0);
        Check.due("place() without an end()", x.place(), -1);
        Check.due("end(-1)", x.end(-1), -1);
        Check.due("place() after a refused end()", x.place(), -1);
        Check.due("end(8)", x.end(8), 5);
        Check.due("place()", x.place(), 4);
        Check.due("place() again", x.place(), 4);
        Check.due("end(9)", x.end(9), -1);
        Check.due("place() after a refused end()", x.place(), 4);
        x.feed(0x0061736d, 0x01000000, 0, 0, 0);
        Check.due("place() while feeding", x.place(), 4);
        Check.due("end(8)", x.end(8), 0);
        Check.due("place() of a module", x.place(), -1);
        Check.due("end(0)", x.end(0), 1);
        Check.due("place() of no bytes", x.place(), 0);
        Check.due("end", Check.read(x, Check.HEAD + Check.section(3, "1 0")), 13);
        Check.due("place() at the module's end", x.place(), 12);
        Check.due("end", Check.read(x, Check.HEAD + Check.section(3, "0")), 0);
        Check.due("place()", x.place(), -1);
        Check.finish();
    }
}
