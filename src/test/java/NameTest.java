/** Promise 8: the bytes of names. */
public final class NameTest {
    public static void main(String[] args) {
        ModuleBytes x = moduleOfNames();
        spelled(x, 1, 0, 0, 'e', 'n', 'v');
        spelled(x, 1, 0, 1, 'g', 'o');
        spelled(x, 1, 1, 0);
        spelled(x, 1, 1, 1, 226, 130, 172);
        spelled(x, 6, 0, 0, 'r', 'u', 'n');
        spelled(x, 6, 1, 0);
        spelled(x, 10, 0, 0, 'h', 'e', 'a', 'd');
        spelled(x, 10, 1, 0);
        for (int i = -2; i < 3; i++) {
            wrongArguments(i);
        }
        elementsAndBodiesHaveNone();
        Check.finish();
    }

    private static ModuleBytes moduleOfNames() {
        return Check.module(Check.section(0, Check.named("head") + "1 2")
            + Check.section(2, "2 " + Check.named("env") + Check.named("go") + "0 0 " + Check.named("") + "3 226 130 172 3 127 0")
            + Check.section(7, "2 " + Check.named("run") + "0 0 " + Check.named("") + "1 0")
            + Check.section(0, Check.named("")));
    }

    private static void wrongArguments(int i) {
        ModuleBytes x = moduleOfNames();
        for (int kind = -1; kind <= 12; kind++) {
            if (kind != 1 && kind != 6 && kind != 10) {
                nothing(x, kind, 0, 0, i);
            }
            nothing(x, kind, 2, 0, i);
            nothing(x, kind, -1, 0, i);
            nothing(x, kind, Integer.MAX_VALUE, 0, i);
            nothing(x, kind, 0, 2, i);
            nothing(x, kind, 0, -1, i);
            nothing(x, kind, 0, Integer.MIN_VALUE, i);
            nothing(x, kind, 0, 1 << 30, i);
        }
        nothing(x, 6, 0, 1, i);
        nothing(x, 10, 0, 1, i);
        nothing(x, Integer.MIN_VALUE, 0, 0, i);
        nothing(x, Integer.MAX_VALUE, 0, 0, i);
    }

    private static void spelled(ModuleBytes x, int kind, int k, int part, int... bytes) {
        String call = "name(" + kind + ", " + k + ", " + part + ", ";
        Check.due(call + "-1)", x.name(kind, k, part, -1), bytes.length);
        for (int i = 0; i < bytes.length; i++) {
            Check.due(call + i + ")", x.name(kind, k, part, i), bytes[i]);
        }
        int[] wrong = {bytes.length, bytes.length + 1, -2, Integer.MIN_VALUE, Integer.MAX_VALUE};
        for (int i : wrong) {
            Check.due(call + i + ")", x.name(kind, k, part, i), -1);
        }
    }

    private static void nothing(ModuleBytes x, int kind, int k, int part, int i) {
        Check.due("name(" + kind + ", " + k + ", " + part + ", " + i + ")", x.name(kind, k, part, i), -1);
    }

    private static void elementsAndBodiesHaveNone() {
        ModuleBytes x = Check.module(Check.section(3, "1 0") + Check.section(9, "1 1 0 2 3 4") + Check.section(10, "1 4 1 1 127 11"));
        nothing(x, 7, 0, 0, -1);
        nothing(x, 7, 0, 0, 0);
        nothing(x, 8, 0, 0, -1);
        nothing(x, 8, 0, 0, 0);
    }
}
