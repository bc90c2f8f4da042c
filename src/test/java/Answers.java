import java.util.ArrayList;
import java.util.List;

/** All that an object answers about its module, to be compared with what another one answers. */
final class Answers {
    private static final int[][] PLACES = {{}, {}, {}, {}, {}, {4, 5}, {}, {4, 5}, {4, 5}, {4, 5, 6}, {6}};

    private final ModuleBytes x;
    private final List<String> found = new ArrayList<>();
    private final int behind;
    private final int moved;

    private Answers(ModuleBytes x, int behind, int moved) {
        this.x = x;
        this.behind = behind;
        this.moved = moved;
    }

    static List<String> of(ModuleBytes x) {
        return of(x, Integer.MAX_VALUE, 0);
    }

    /** Places behind this one are told as if the bytes there had not been moved. */
    static List<String> of(ModuleBytes x, int behind, int moved) {
        Answers answers = new Answers(x, behind, moved);
        for (int what = 0; what <= 13; what++) {
            answers.tell("many(" + what + ")", x.many(what), false);
        }
        for (int k = 0; k < x.many(0); k++) {
            answers.types(k, 0);
            answers.types(k, 1);
        }
        for (int kind = 1; kind <= 10; kind++) {
            for (int k = 0; k < x.many(kind); k++) {
                answers.looks(kind, k);
            }
        }
        return answers.found;
    }

    static void compare(String about, List<String> got, List<String> due) {
        Check.due("how many answers, " + about, got.size(), due.size());
        for (int i = 0; i < Math.min(got.size(), due.size()); i++) {
            if (!got.get(i).equals(due.get(i))) {
                Check.wrong(about + ": " + got.get(i) + ", due is " + due.get(i));
            }
        }
    }

    private void tell(String call, long answer, boolean place) {
        found.add(call + " = " + (place && answer > behind ? answer - moved : answer));
    }

    private void types(int k, int side) {
        for (int i = -1; i < 2; i++) {
            tell("type(" + k + ", " + side + ", " + i + ")", x.type(k, side, i), false);
        }
    }

    private void looks(int kind, int k) {
        boolean ofExpressions = kind == 7 && x.look(kind, k, 6) == 1;
        long listed = kind == 7 ? x.look(kind, k, 3) : kind == 8 ? 2 * x.look(kind, k, 0) : 0;
        for (int what = 0; what < 8 + listed; what++) {
            boolean place = what >= 8 && ofExpressions;
            for (int one : PLACES[kind]) {
                place |= one == what;
            }
            tell("look(" + kind + ", " + k + ", " + what + ")", x.look(kind, k, what), place);
        }
        int parts = kind == 1 ? 2 : kind == 6 || kind == 10 ? 1 : 0;
        for (int part = 0; part < parts; part++) {
            for (int i = -1; i < 2; i++) {
                tell("name(" + kind + ", " + k + ", " + part + ", " + i + ")", x.name(kind, k, part, i), false);
            }
        }
    }
}
