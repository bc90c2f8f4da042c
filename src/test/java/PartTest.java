/** Promise 3: the module, each section and each body end where they must: the faults 1, 2 and 3. */
public final class PartTest {
    private static final String[] SECTIONS = sections();

    public static void main(String[] args) {
        moduleEndsAnywhere();
        for (String section : SECTIONS) {
            sectionTooShort(section);
            sectionTooLong(section);
        }
        bodyTooShort();
        bodyTooLong();
        anyBytesBehindAName();
        Check.finish();
    }

    /** The sections of the full module, each with its id and without its length. */
    private static String[] sections() {
        int[] all = Check.bytes(new Template(Template.FULL).text());
        StringBuilder found = new StringBuilder();
        int at = 8;
        while (at < all.length) {
            int length = all[at + 1];
            found.append(all[at]).append(' ');
            for (int i = 0; i < length; i++) {
                found.append(all[at + 2 + i]).append(' ');
            }
            found.append('/');
            at += 2 + length;
        }
        return found.toString().split("/");
    }

    /** The full module, cut behind each of its bytes. */
    private static void moduleEndsAnywhere() {
        Template full = new Template(Template.FULL);
        int[] all = Check.bytes(full.text());
        int length = 8;
        int functionsMissing = 0;
        int dataMissing = 0;
        for (int n = 0; n < 8; n++) {
            cut(full, n, 1, n);
        }
        while (length < all.length) {
            cut(full, length, functionsMissing + dataMissing == 0 ? 0 : functionsMissing != 0 ? 13 : 14, length);
            int id = all[length];
            int size = all[length + 1];
            cut(full, length + 1, 1, length + 1);
            for (int more = 0; more < size; more++) {
                cut(full, length + 2 + more, 2, length + 1);
            }
            functionsMissing = id == 3 ? 1 : id == 10 ? 0 : functionsMissing;
            dataMissing = id == 12 ? 1 : id == 11 ? 0 : dataMissing;
            length += 2 + size;
        }
        cut(full, length, 0, -1);
    }

    /** All bytes are fed, and the first n of them are read. */
    private static void cut(Template full, int n, int fault, int place) {
        ModuleBytes x = new ModuleBytes();
        Check.feed(x, full.text());
        Check.due("end(" + n + ")", x.end(n), fault);
        Check.due("place after end(" + n + ")", x.place(), fault == 0 ? -1 : place);
    }

    private static int id(String section) {
        return Check.bytes(section)[0];
    }

    private static String contents(String section, int length) {
        int[] all = Check.bytes(section);
        StringBuilder text = new StringBuilder();
        for (int i = 0; i < length; i++) {
            text.append(all[1 + i]).append(' ');
        }
        return text.toString();
    }

    /** A section that has only its first bytes; what is behind it does not help it. */
    private static void sectionTooShort(String section) {
        int id = id(section);
        int full = Check.length(section) - 1;
        // What a name is followed by may be cut; a body is cut in bodyTooShort.
        int most = id == 0 ? Check.bytes(section)[1] + 1 : id == 10 ? 2 : full;
        for (int length = 0; length < most; length++) {
            String shorter = Check.section(id, contents(section, length));
            Check.fault(1, 2 + length, shorter);
            Check.fault(1, 2 + length, shorter + "0*40");
        }
    }

    private static void sectionTooLong(String section) {
        int id = id(section);
        int full = Check.length(section) - 1;
        String contents = contents(section, full);
        Check.fault(2, 1, id + " " + Check.u32(full + 1) + contents);
        Check.fault(2, 1, id + " 255 255 255 255 15 " + contents);
        if (id != 0 && id != 10) {
            Check.fault(3, 2 + full, Check.section(id, contents + "0"));
            Check.fault(3, 2 + full, Check.section(id, contents + "11*40"));
        }
    }

    private static final String BODY = "2 1 127 129 1 112 2 64 65 128 1 26 14 1 0 0 11 11";

    private static String firstOfBody(int length) {
        int[] all = Check.bytes(BODY);
        StringBuilder text = new StringBuilder();
        for (int i = 0; i < length; i++) {
            text.append(all[i]).append(' ');
        }
        return text.toString();
    }

    private static void bodyTooShort() {
        int full = Check.length(BODY);
        for (int length = 0; length < full; length++) {
            String first = Check.sized(firstOfBody(length));
            Check.fault(1, 4 + length, Check.section(10, "1 " + first));
            // Neither the next body nor the next section helps it.
            Check.fault(1, 4 + length, Check.section(10, "2 " + first + "2 0 11"));
            Check.fault(1, 4 + length, Check.section(10, "1 " + first) + Check.section(11, "0"));
            // The section ends within the body.
            Check.fault(2, 3, Check.section(10, "1 " + full + " " + firstOfBody(length)));
            Check.fault(2, 3, Check.section(10, "1 " + full + " " + firstOfBody(length)) + "0*40");
        }
        Check.module(Check.section(3, "1 0") + Check.section(10, "1 " + Check.sized(BODY)));
    }

    private static void bodyTooLong() {
        int full = Check.length(BODY);
        Check.fault(2, 3, Check.section(10, "1 " + (full + 1) + " " + BODY));
        Check.fault(2, 6, Check.section(10, "2 2 0 11 " + (full + 1) + " " + BODY));
        Check.fault(3, 4 + full, Check.section(10, "1 " + (full + 1) + " " + BODY + " 11"));
        Check.fault(3, 4 + full, Check.section(10, "1 " + (full + 2) + " " + BODY + " 0 0"));
        Check.fault(3, 4 + full, Check.section(10, "1 " + full + " " + BODY + " 2 0 11"));
        // A body that has no bytes lacks the U32 of its locals.
        Check.fault(1, 4, Check.section(10, "1 0 0"));
        // The last 11 of a block is not the last one of the expression.
        Check.fault(1, 8, Check.section(10, "1 4 0 2 64 11"));
        Check.fault(1, 8, Check.section(10, "2 4 0 2 64 11 2 0 11"));
    }

    private static void anyBytesBehindAName() {
        for (int value = 0; value < 256; value++) {
            ModuleBytes x = Check.module(Check.section(0, "0 " + value + " " + value));
            Check.due("look(10, 0, 3)", x.look(10, 0, 3), 2);
        }
        Check.module(Check.section(0, Check.named("") + "0*1980"));
    }
}
