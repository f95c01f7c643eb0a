import java.nio.charset.StandardCharsets;

/** What the project's tests share: answers looked at one by one, and texts laid on the tape. */
public final class Due {
    private static int looked = 0;
    private static int wrong = 0;

    private Due() {
    }

    public static void is(String call, long got, long want) {
        looked++;
        if (got != want) {
            wrong++;
            System.out.println(call + " answered " + got + ", due is " + want);
        }
    }

    /** Ends the test: exit code 1 if an answer was not the one that was due. */
    public static void end() {
        System.out.println(looked + " answers looked at, " + wrong + " not as due");
        System.exit(wrong == 0 && looked > 0 ? 0 : 1);
    }

    /** THE TAPE is this text alone, a byte a character. */
    public static void lay(WardWatch x, String text) {
        lay(x, text.getBytes(StandardCharsets.ISO_8859_1));
    }

    public static void lay(WardWatch x, byte[] bytes) {
        is("end(0)", x.end(0), 0);
        for (int at = 0; at < bytes.length; at += 20) {
            is("feed", x.feed(four(bytes, at), four(bytes, at + 4), four(bytes, at + 8),
                    four(bytes, at + 12), four(bytes, at + 16)), at + 20);
        }
        is("end(" + bytes.length + ")", x.end(bytes.length), bytes.length);
    }

    private static int four(byte[] bytes, int at) {
        int four = 0;
        for (int i = at; i < at + 4; i++) {
            four = four << 8 | (i < bytes.length ? bytes[i] & 255 : 32);
        }
        return four;
    }

    /** The text becomes the ward's laws: so many lines. */
    public static void tellLaws(WardWatch x, int ward, String text, int lines) {
        lay(x, text);
        is("laws(" + ward + ") of \"" + text + "\"", x.laws(ward), lines);
        is("fault(0) of \"" + text + "\"", x.fault(0), 0);
        is("fault(1) of \"" + text + "\"", x.fault(1), -1);
    }

    /** The text is no laws: a fault of this kind at this place. */
    public static void faulty(WardWatch x, int ward, String text, int kind, int place) {
        lay(x, text);
        is("laws(" + ward + ") of \"" + text + "\"", x.laws(ward), -1);
        is("fault(0) of \"" + text + "\"", x.fault(0), kind);
        is("fault(1) of \"" + text + "\"", x.fault(1), place);
    }
}
