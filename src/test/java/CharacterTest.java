/** Promise 3: the characters of a name, and fault 9. */
public final class CharacterTest {
    public static void main(String[] args) {
        goodOnes();
        badOnes();
        wholeNameFirst();
        everyName();
        Check.finish();
    }

    private static void goodOnes() {
        good("0");
        good("127");
        good("194 128");
        good("223 191");
        good("224 160 128");
        good("237 159 191");
        good("238 128 128");
        good("239 191 191");
        good("240 144 128 128");
        good("244 143 191 191");
        good("97 195 164 226 130 172 240 159 152 128 98");
    }

    private static void badOnes() {
        String[] followers = {"128 128 128", "144 128 128", "160 128 128", "191 191 191"};
        for (String three : followers) {
            for (int lead = 128; lead < 194; lead++) {
                bad(0, lead + " " + three);
            }
            for (int lead = 245; lead < 256; lead++) {
                bad(0, lead + " " + three);
            }
        }
        // The characters that would fit into fewer bytes, up to the last of them.
        for (int follower = 128; follower < 192; follower++) {
            bad(0, "192 " + follower);
            bad(0, "193 " + follower);
        }
        for (int second = 0; second < 256; second++) {
            boolean follows = second >= 128 && second < 192;
            judge(follows, "194 " + second);
            judge(follows && second >= 160, "224 " + second + " 128");
            judge(follows && second < 160, "237 " + second + " 128");
            judge(follows, "225 128 " + second);
            judge(follows && second >= 144, "240 " + second + " 128 128");
            judge(follows && second < 144, "244 " + second + " 128 128");
            judge(follows, "241 128 " + second + " 128");
            judge(follows, "241 128 128 " + second);
        }
        bad(0, "237 160 128");
        bad(0, "237 191 191");
        bad(0, "224 159 191");
        bad(0, "240 143 191 191");
        bad(0, "244 144 128 128");
        bad(0, "194");
        bad(0, "225 128");
        bad(0, "241 128 128");
        bad(2, "97 98 255");
        bad(3, "226 130 172 194 97");
        bad(2, "194 128 128");
    }

    private static void wholeNameFirst() {
        Check.fault(1, 5, "0 3 3 255 255");
        Check.fault(9, 3, "0 3 1 195 164");
        Check.fault(9, 4, "7 4 1 2 255 97");
        Check.fault(1, 6, "7 4 1 3 255 97");
    }

    private static void everyName() {
        Check.fault(9, 4, Check.section(2, "1 1 128 0 9"));
        Check.fault(9, 6, Check.section(2, "1 1 97 1 128 9"));
        Check.fault(9, 4, Check.section(7, "1 1 128 9 0"));
        Check.fault(9, 3, Check.section(0, "1 128"));
    }

    private static void good(String name) {
        Check.module(Check.section(0, Check.sized(name)));
    }

    private static void bad(int place, String name) {
        Check.fault(9, 3 + place, Check.section(0, Check.sized(name)));
    }

    private static void judge(boolean good, String name) {
        if (good) {
            good(name);
        } else {
            bad(0, name);
        }
    }
}
