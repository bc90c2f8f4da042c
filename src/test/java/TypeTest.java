/** Promise 6: the function types. */
public final class TypeTest {
    public static void main(String[] args) {
        ModuleBytes x = Check.module(Check.section(0, "0")
            + Check.section(1, "3 96 6 127 126 125 124 112 111 1 125 96 0 0 96 128 0 2 111 127"));
        int[][][] due = {{{127, 126, 125, 124, 112, 111}, {125}}, {{}, {}}, {{}, {111, 127}}};
        for (int k = 0; k < 3; k++) {
            for (int side = 0; side < 2; side++) {
                int[] types = due[k][side];
                Check.due("type(" + k + ", " + side + ", -1)", x.type(k, side, -1), types.length);
                for (int i = 0; i < types.length; i++) {
                    Check.due("type(" + k + ", " + side + ", " + i + ")", x.type(k, side, i), types[i]);
                }
                Check.due("type behind the last", x.type(k, side, types.length), -1);
                Check.due("type(.., max)", x.type(k, side, Integer.MAX_VALUE), -1);
                Check.due("type(.., -2)", x.type(k, side, -2), -1);
                Check.due("type(.., min)", x.type(k, side, Integer.MIN_VALUE), -1);
            }
        }
        int[] wrong = {-1, 3, Integer.MIN_VALUE, Integer.MAX_VALUE};
        for (int k : wrong) {
            Check.due("type(" + k + ", 0, -1)", x.type(k, 0, -1), -1);
            Check.due("type(" + k + ", 1, 0)", x.type(k, 1, 0), -1);
        }
        int[] wrongSides = {-1, 2, 3, Integer.MIN_VALUE, Integer.MAX_VALUE, 1 << 30};
        for (int side : wrongSides) {
            Check.due("type(0, " + side + ", -1)", x.type(0, side, -1), -1);
            Check.due("type(0, " + side + ", 0)", x.type(0, side, 0), -1);
        }
        Check.finish();
    }
}
