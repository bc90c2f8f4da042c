/** Promise 3: at each place where only some bytes may be there, all 256 are tried: the faults 7 and 8. */
public final class EveryByteTest {
    private static final String[] VALUE_TYPES = {"127", "126", "125", "124", "112", "111"};
    private static final String[] REFERENCE_TYPES = {"112", "111"};
    private static final String[] LIMITS = {"0 #5", "1 #5 #6", "1 #6 #5"};
    private static final String[] ZERO = {"0"};
    private static final String[] ZERO_OR_ONE = {"0", "1"};
    private static final String BODY_WITH_COUNT = "3 { #1 #0 } 12 { #0 } 10 { #1 { #0 ";

    public static void main(String[] args) {
        choices();
        zeros();
        types();
        elementNumbers();
        dataNumbers();
        Check.finish();
    }

    /** Only what begins with the first bytes of these may stand between the two texts. */
    private static void only(int fault, String before, String after, String... these) {
        boolean[] may = new boolean[256];
        for (String one : these) {
            may[Integer.parseInt(one.split(" ")[0])] = true;
            Check.module(new Template(before + one + after).text());
        }
        for (int value = 0; value < 256; value++) {
            if (!may[value]) {
                Template wrong = new Template(before + "! " + value + " 0 0 0" + after);
                Check.fault(fault, wrong.mark(), wrong.text());
                Template last = new Template(before + "! " + value + after);
                Check.fault(fault, last.mark(), last.text());
            }
        }
    }

    private static void choices() {
        only(7, "2 { #1 #1 97 #0 ", " }", "0 #300", "1 112 0 #5", "2 0 #5", "3 127 0");
        only(7, "2 { #1 #0 #0 1 111 ", " }", LIMITS);
        only(7, "2 { #1 #0 #0 2 ", " }", LIMITS);
        only(7, "2 { #1 #0 #0 3 112 ", " }", ZERO_OR_ONE);
        only(7, "4 { #1 112 ", " }", LIMITS);
        only(7, "5 { #1 ", " }", LIMITS);
        only(7, "6 { #1 124 ", " 11 }", ZERO_OR_ONE);
        only(7, "7 { #1 #1 97 ", " }", "0 #300", "1 #0", "2 #1", "3 #2");
    }

    private static void zeros() {
        only(7, "9 { #1 #1 ", " #1 #5 }", ZERO);
        only(7, "9 { #1 #2 #0 11 ", " #1 #5 }", ZERO);
        only(7, "9 { #1 #3 ", " #1 #5 }", ZERO);
        only(7, "6 { #1 127 0 63 ", " 11 }", ZERO);
        only(7, "6 { #1 127 0 64 ", " 11 }", ZERO);
        only(7, "6 { #1 127 0 252 #10 ", " 0 11 }", ZERO);
        only(7, "6 { #1 127 0 252 #10 0 ", " 11 }", ZERO);
        only(7, "6 { #1 127 0 252 #11 ", " 11 }", ZERO);
        only(7, BODY_WITH_COUNT + "252 #8 #300 ", " 11 } }", ZERO);
    }

    private static void types() {
        only(8, "1 { #1 ", " #0 #0 }", "96");
        only(8, "1 { #2 96 #0 #0 ", " #0 #0 }", "96");
        only(8, "1 { #1 96 #2 127 ", " #0 }", VALUE_TYPES);
        only(8, "1 { #1 96 #0 #2 ", " 127 }", VALUE_TYPES);
        only(8, "2 { #1 #0 #0 1 ", " 0 #0 }", REFERENCE_TYPES);
        only(8, "2 { #1 #0 #0 3 ", " 0 }", VALUE_TYPES);
        only(8, "4 { #1 ", " 0 #0 }", REFERENCE_TYPES);
        only(8, "6 { #1 ", " 0 11 }", VALUE_TYPES);
        only(8, "6 { #1 127 0 28 #2 127 ", " 11 }", VALUE_TYPES);
        only(8, "6 { #1 127 0 208 ", " 11 }", REFERENCE_TYPES);
        only(8, "9 { #1 #5 ", " #0 }", REFERENCE_TYPES);
        only(8, "9 { #1 #6 #0 11 ", " #0 }", REFERENCE_TYPES);
        only(8, "9 { #1 #7 ", " #0 }", REFERENCE_TYPES);
        only(8, "3 { #1 #0 } 10 { #1 { #2 #1 127 #0 ", " 11 } }", VALUE_TYPES);
    }

    private static void elementNumbers() {
        String[] rest = {"11 #0", "0 #0", "#0 11 0 #0", "0 #0", "11 #0", "112 #0", "#0 11 112 #0", "112 #0"};
        for (int m = 0; m < 8; m++) {
            Check.module(new Template("9 { #1 #" + m + " " + rest[m] + " }").text());
        }
        wrongNumbers("9 { #1 ! #", 8);
        wrongNumbers("9 { #2 #1 0 #0 ! #", 8);
    }

    private static void dataNumbers() {
        String[] rest = {"11 #0", "#0", "#0 11 #0"};
        for (int m = 0; m < 3; m++) {
            Check.module(new Template("11 { #1 #" + m + " " + rest[m] + " }").text());
        }
        wrongNumbers("11 { #1 ! #", 3);
        wrongNumbers("11 { #2 #1 #0 ! #", 3);
    }

    /** From least on they are wrong, those too whose first byte or low bits are as in a good one. */
    private static void wrongNumbers(String before, int least) {
        for (int m = least; m < 300; m++) {
            wrongNumber(before, m);
        }
        long[] great = {16384, 65536, 1L << 28, (1L << 31) - 1, 1L << 31, (1L << 31) + 1, (1L << 32) - 1};
        for (long m : great) {
            wrongNumber(before, m);
        }
    }

    private static void wrongNumber(String before, long m) {
        Template wrong = new Template(before + m + " 0 0 0 }");
        Check.fault(7, wrong.mark(), wrong.text());
    }
}
