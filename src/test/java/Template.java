import java.util.ArrayList;
import java.util.List;

/**
 * A module written with marks, so that each of its numbers can be written in another way.
 * The words: 7 a byte; 7*3 three of them; #300 a U32; { .. } a part with its length, a U32, ahead of it;
 * ! marks the place of the byte or number behind it.
 */
final class Template {
    static final int NO_NUMBER = -1;

    /** The ways in which the chosen U32 is written; the last two are wrong in their fifth byte. */
    enum Form { FIVE_BYTES, TOO_GREAT, GOES_ON }

    /** One of each thing that a module may have, with U32s of one byte and of two. */
    static final String FULL = Check.HEAD
        + "0 { #2 97 98 1 2 3 } "
        + "1 { #2 96 #2 127 111 #1 124 96 #0 #0 } "
        + "2 { #5 #1 97 #2 195 164 0 #129 #0 #0 1 112 1 #3 #4 #0 #0 2 0 #5 #0 #0 2 1 #6 #7 #0 #0 3 126 1 } "
        + "3 { #3 #0 #129 #1 } "
        + "4 { #2 112 0 #1 111 1 #2 #200 } "
        + "5 { #2 0 #1 1 #2 #3 } "
        + "6 { #2 127 0 65 255 0 11 124 1 68 11*8 11 } "
        + "7 { #4 #1 97 0 #1 #0 1 #200 #0 2 #0 #0 3 #7 } "
        + "8 { #129 } "
        + "9 { #8 #0 65 0 11 #2 #5 #300 #1 0 #1 #6 #2 #9 11 0 #0 #3 0 #3 #1 #2 #3 "
        + "#4 11 #2 210 #7 11 11 #5 111 #1 208 111 11 #6 #300 1 11 112 #0 #7 111 #1 11 } "
        + "12 { #4 } "
        + "10 { #3 { #0 12 #0 13 #1 16 #200 32 #0 38 #1 210 #1 14 #2 #0 #1 #2 17 #0 #1 28 #1 127 40 #2 #0 62 #0 #300 11 } "
        + "{ #2 #2 127 #300 112 2 64 12 #0 11 11 } "
        + "{ #0 252 #0 252 #8 #1 0 252 #9 #0 252 #10 0 0 252 #11 0 252 #12 #0 #1 252 #13 #2 252 #14 #0 #0 252 #17 #0 11 } } "
        + "11 { #4 #0 65 0 11 #3 1 2 3 #1 #2 9 9 #2 #300 11 #1 7 #1 #0 } "
        + "0 { #0 }";

    private static final int MARKED = 1000;

    private final String[] words;
    private final int chosen;
    private final Form form;
    private int next;
    private int numbers;
    private boolean markNext;
    private final List<Integer> all;
    private int mark;

    Template(String text) {
        this(text, NO_NUMBER, Form.FIVE_BYTES);
    }

    /** The chosen number, counted from 0 in the order of the text, is marked and written in this form. */
    Template(String text, int chosen, Form form) {
        words = text.trim().split("\\s+");
        this.chosen = chosen;
        this.form = form;
        all = part();
        mark = -1;
        for (int i = 0; i < all.size(); i++) {
            if (all.get(i) >= MARKED) {
                mark = i;
                all.set(i, all.get(i) - MARKED);
            }
        }
    }

    int mark() {
        return mark;
    }

    int numbers() {
        return numbers;
    }

    int length() {
        return all.size();
    }

    String text() {
        return text(all.size());
    }

    /** The first bytes alone. */
    String text(int length) {
        StringBuilder text = new StringBuilder();
        for (int i = 0; i < length; i++) {
            text.append(all.get(i)).append(' ');
        }
        return text.toString();
    }

    private List<Integer> part() {
        List<Integer> bytes = new ArrayList<>();
        while (next < words.length) {
            String word = words[next++];
            if (word.equals("}")) {
                break;
            }
            if (word.equals("!")) {
                markNext = true;
            } else if (word.equals("{")) {
                boolean marked = takeMark();
                int index = numbers++;
                List<Integer> inner = part();
                bytes.addAll(number(inner.size(), index, marked));
                bytes.addAll(inner);
            } else if (word.startsWith("#")) {
                boolean marked = takeMark();
                bytes.addAll(number(Long.parseLong(word.substring(1)), numbers++, marked));
            } else {
                int add = takeMark() ? MARKED : 0;
                for (int value : Check.bytes(word)) {
                    bytes.add(value + add);
                }
            }
        }
        return bytes;
    }

    private boolean takeMark() {
        boolean taken = markNext;
        markNext = false;
        return taken;
    }

    private List<Integer> number(long value, int index, boolean marked) {
        List<Integer> bytes = new ArrayList<>();
        for (int one : Check.bytes(index == chosen ? inForm(value) : Check.u32(value))) {
            bytes.add(one);
        }
        if (marked || index == chosen) {
            bytes.set(0, bytes.get(0) + MARKED);
        }
        return bytes;
    }

    private String inForm(long value) {
        StringBuilder text = new StringBuilder();
        for (int i = 0; i < 4; i++) {
            text.append(value >> 7 * i & 127 | 128).append(' ');
        }
        int fifth = (int) (value >> 28);
        switch (form) {
            case TOO_GREAT:
                return text.append(fifth | 16).toString();
            case GOES_ON:
                return text.append(fifth | 128).append(" 0").toString();
            default:
                return text.append(fifth).toString();
        }
    }
}
