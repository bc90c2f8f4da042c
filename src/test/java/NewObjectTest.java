/** Promise 1: a new object has no bytes and no module. */
public final class NewObjectTest {
    public static void main(String[] args) {
        ModuleBytes x = new ModuleBytes();
        Check.due("place()", x.place(), -1);
        for (int what = 0; what <= 11; what++) {
            Check.due("many(" + what + ")", x.many(what), 0);
        }
        for (int what = 12; what <= 15; what++) {
            Check.due("many(" + what + ")", x.many(what), -1);
        }
        Check.due("many(-1)", x.many(-1), -1);
        Check.due("type(0, 0, -1)", x.type(0, 0, -1), -1);
        for (int kind = 0; kind <= 11; kind++) {
            Check.due("look(kind, 0, 0)", x.look(kind, 0, 0), -1);
            Check.due("look(kind, 0, 8)", x.look(kind, 0, 8), -1);
            Check.due("name(kind, 0, 0, -1)", x.name(kind, 0, 0, -1), -1);
        }
        Check.due("end(1)", x.end(1), -1);
        Check.due("place() after end(1)", x.place(), -1);
        Check.due("end(0)", x.end(0), 1);
        Check.due("place() after end(0)", x.place(), 0);
        Check.due("feed", x.feed(1, 2, 3, 4, 5), 20);
        objectsAreApart();
        noneOfAnything();
        Check.finish();
    }

    /** Without a module there is none of a kind, whatever is asked of it; nor after bytes that are no module. */
    private static void noneOfAnything() {
        int[] some = {-1, 0, 1, 8, Integer.MIN_VALUE, Integer.MAX_VALUE};
        for (int kind = -1; kind <= 11; kind++) {
            ModuleBytes x = new ModuleBytes();
            Check.due("end of a fault", Check.read(x, Check.HEAD + Check.section(1, "1 96 1 127 0") + "13"), 6);
            Check.due("many(0)", x.many(0), 0);
            Check.due("many(11)", x.many(11), 0);
            for (int k : some) {
                for (int one : some) {
                    Check.due("look(" + kind + ", " + k + ", " + one + ")", x.look(kind, k, one), -1);
                    Check.due("name(" + kind + ", " + k + ", 0, " + one + ")", x.name(kind, k, 0, one), -1);
                    Check.due("name(" + kind + ", " + k + ", 1, " + one + ")", x.name(kind, k, 1, one), -1);
                    Check.due("type(" + k + ", 0, " + one + ")", x.type(k, 0, one), -1);
                    Check.due("type(" + k + ", 1, " + one + ")", x.type(k, 1, one), -1);
                }
            }
        }
    }

    private static void objectsAreApart() {
        ModuleBytes one = Check.module(Check.section(1, "1 96 0 0"));
        ModuleBytes other = new ModuleBytes();
        Check.due("many(0) of the one", one.many(0), 1);
        Check.due("many(0) of the other", other.many(0), 0);
    }
}
