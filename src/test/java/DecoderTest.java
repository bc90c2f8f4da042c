import java.nio.ByteBuffer;
import java.nio.CharBuffer;
import java.nio.charset.CharsetDecoder;
import java.nio.charset.CodingErrorAction;
import java.nio.charset.StandardCharsets;
import java.util.Arrays;

/** Promise 3: names are judged like Java's own decoder of these characters judges them (fault 9 and its place). */
public final class DecoderTest {
    private static final int READINGS_OF_AN_OBJECT = 150;
    private static final int NAME_AT = 11;
    private static final int[] BYTES = {0, 97, 127, 128, 143, 144, 159, 160, 191, 192, 193, 194, 223, 224, 225, 236, 237, 238,
        239, 240, 241, 243, 244, 245, 247, 248, 255};

    private final CharsetDecoder decoder = StandardCharsets.UTF_8.newDecoder()
        .onMalformedInput(CodingErrorAction.REPORT)
        .onUnmappableCharacter(CodingErrorAction.REPORT);
    private final CharBuffer decoded = CharBuffer.allocate(16);
    private ModuleBytes x = new ModuleBytes();
    private int readings;

    public static void main(String[] args) {
        DecoderTest test = new DecoderTest();
        test.twoBytes();
        test.fourBytes();
        Check.finish();
    }

    private void twoBytes() {
        for (int first = 0; first < 256; first++) {
            judge(first);
            for (int second = 0; second < 256; second++) {
                judge(first, second);
                judge(first, second, 128);
                judge(first, second, 191, 128);
                judge(97, first, second);
            }
        }
    }

    private void fourBytes() {
        for (int first : BYTES) {
            for (int second : BYTES) {
                for (int third : BYTES) {
                    judge(first, second, third);
                    for (int fourth : BYTES) {
                        judge(first, second, third, fourth);
                    }
                }
            }
        }
    }

    /** A section with id 0 that has these bytes, five at most, as its name. */
    private void judge(int... name) {
        if (readings == READINGS_OF_AN_OBJECT) {
            x = new ModuleBytes();
            readings = 0;
        }
        readings++;
        long bytes = 0;
        for (int i = 0; i < 5; i++) {
            bytes = bytes << 8 | (i < name.length ? name[i] : 0);
        }
        x.feed(0x0061736d, 0x01000000, name.length + 1 << 16 | name.length << 8 | (int) (bytes >> 32), (int) bytes, 0);
        int bad = firstBad(name);
        int fault = x.end(NAME_AT + name.length);
        int place = x.place();
        if (fault != (bad < 0 ? 0 : 9) || place != (bad < 0 ? -1 : NAME_AT + bad)) {
            Check.wrong("the name " + Arrays.toString(name) + " answered " + fault + " at " + place
                + ", the first bad byte of it is " + bad);
        }
    }

    /** Where the first character begins that is none; -1 if all are good. */
    private int firstBad(int[] name) {
        ByteBuffer in = ByteBuffer.allocate(name.length);
        for (int one : name) {
            in.put((byte) one);
        }
        in.flip();
        decoded.clear();
        decoder.reset();
        return decoder.decode(in, decoded, true).isError() ? in.position() : -1;
    }
}
