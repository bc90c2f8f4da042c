import java.util.ArrayList;
import java.util.List;

/** What the tests share: modules written as texts of numbers, and the count of wrong answers. */
final class Check {
    static final String HEAD = "0 97 115 109 1 0 0 0 ";

    private static int wrong = 0;

    private Check() {
    }

    static void due(String call, long got, long want) {
        if (got != want) {
            String shown = call.length() > 120 ? call.substring(0, 120) + " .." : call;
            wrong(shown + " answered " + got + ", due is " + want);
        }
    }

    static void wrong(String told) {
        wrong++;
        System.out.println(told);
    }

    /** Ends the test, with exit code 1 if an answer was wrong. */
    static void finish() {
        if (wrong != 0) {
            System.out.println(wrong + " answers are not as due");
            System.exit(1);
        }
    }

    /** The numbers of a text; "7*3" stands for 7 7 7. */
    static int[] bytes(String text) {
        List<Integer> found = new ArrayList<>();
        for (String word : text.trim().split("\\s+")) {
            if (word.isEmpty()) {
                continue;
            }
            String[] parts = word.split("\\*");
            int times = parts.length > 1 ? Integer.parseInt(parts[1]) : 1;
            for (int i = 0; i < times; i++) {
                found.add(Integer.parseInt(parts[0]));
            }
        }
        int[] all = new int[found.size()];
        for (int i = 0; i < all.length; i++) {
            all[i] = found.get(i);
        }
        return all;
    }

    static int length(String text) {
        return bytes(text).length;
    }

    static String u32(long value) {
        StringBuilder text = new StringBuilder();
        long rest = value;
        while (rest > 127) {
            text.append(rest % 128 + 128).append(' ');
            rest /= 128;
        }
        return text.append(rest).append(' ').toString();
    }

    /** A text with its length ahead of it. */
    static String sized(String text) {
        return u32(length(text)) + text + " ";
    }

    static String section(int id, String contents) {
        return id + " " + sized(contents);
    }

    /** A text's characters as a name. */
    static String named(String name) {
        StringBuilder text = new StringBuilder(u32(name.length()));
        for (char c : name.toCharArray()) {
            text.append((int) c).append(' ');
        }
        return text.toString();
    }

    /** Feeds these bytes, and zeros up to the next twenty. */
    static void feed(ModuleBytes x, String text) {
        int[] all = bytes(text);
        for (int from = 0; from < all.length; from += 20) {
            int[] numbers = new int[5];
            for (int i = 0; i < 20; i++) {
                int value = from + i < all.length ? all[from + i] : 0;
                numbers[i / 4] = numbers[i / 4] << 8 | value;
            }
            x.feed(numbers[0], numbers[1], numbers[2], numbers[3], numbers[4]);
        }
    }

    static int read(ModuleBytes x, String text) {
        feed(x, text);
        return x.end(length(text));
    }

    /** An object whose module these sections are. */
    static ModuleBytes module(String sections) {
        ModuleBytes x = new ModuleBytes();
        due("end of " + sections, read(x, HEAD + sections), 0);
        due("place after " + sections, x.place(), -1);
        return x;
    }

    /** The sections are no module; the place is counted from the first byte behind the eight ones. */
    static void fault(int fault, int place, String sections) {
        ModuleBytes x = new ModuleBytes();
        due("end of " + sections, read(x, HEAD + sections), fault);
        due("place after " + sections, x.place(), place + 8);
    }

    /** Where the length of the section begins whose bytes are not all there, though its length is; -1 if there is none. */
    static int openSection(String text) {
        int[] all = bytes(text);
        int at = 8;
        while (at < all.length) {
            int begin = at + 1;
            long length = 0;
            int shift = 0;
            at++;
            while (at < all.length && all[at] > 127) {
                length |= (long) (all[at++] & 127) << shift;
                shift += 7;
            }
            if (at >= all.length) {
                return -1;
            }
            length |= (long) all[at++] << shift;
            if (length > all.length - at) {
                return begin;
            }
            at += (int) length;
        }
        return -1;
    }
}
