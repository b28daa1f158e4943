import java.nio.charset.StandardCharsets;
import java.util.NoSuchElementException;
import java.util.function.LongSupplier;

/** What the tests share: telling wrong answers, and laying a text on a tape. */
final class Checks {
    static final int NEVER = 999999;
    /** What answer() tells in place of an answer. */
    static final long NO_SUCH_ELEMENT = Long.MIN_VALUE;
    static final long ILLEGAL_ARGUMENT = Long.MIN_VALUE + 1;

    private static int checked = 0;
    private static int wrong = 0;

    private Checks() {
    }

    static void due(String call, long got, long want) {
        checked++;
        if (got != want) {
            wrong++;
            if (wrong <= 50) {
                System.out.println(call + " answered " + told(got) + ", due is " + told(want));
            }
        }
    }

    static void due(String call, boolean got, boolean want) {
        due(call, got ? 1 : 0, want ? 1 : 0);
    }

    static void noSuch(String call, LongSupplier made) {
        due(call, answer(made), NO_SUCH_ELEMENT);
    }

    static void illegal(String call, LongSupplier made) {
        due(call, answer(made), ILLEGAL_ARGUMENT);
    }

    /** The answer, or which of the two exceptions came (not a subclass of them). */
    static long answer(LongSupplier made) {
        try {
            return made.getAsLong();
        } catch (NoSuchElementException e) {
            if (e.getClass() != NoSuchElementException.class) {
                throw e;
            }
            return NO_SUCH_ELEMENT;
        } catch (IllegalArgumentException e) {
            if (e.getClass() != IllegalArgumentException.class) {
                throw e;
            }
            return ILLEGAL_ARGUMENT;
        }
    }

    static String told(long answer) {
        return answer == NO_SUCH_ELEMENT ? "NoSuchElementException"
            : answer == ILLEGAL_ARGUMENT ? "IllegalArgumentException" : Long.toString(answer);
    }

    static byte[] bytes(String text) {
        return text.getBytes(StandardCharsets.ISO_8859_1);
    }

    /** Four bytes of a text as a number, blanks behind its end. */
    static int four(byte[] text, int at) {
        int number = 0;
        for (int i = at; i < at + 4; i++) {
            number = number << 8 | (i < text.length ? text[i] & 255 : ' ');
        }
        return number;
    }

    static void lay(KeepForget k, String text) {
        byte[] bytes = bytes(text);
        for (int i = 0; i < bytes.length; i += 20) {
            k.feed(four(bytes, i), four(bytes, i + 4), four(bytes, i + 8), four(bytes, i + 12), four(bytes, i + 16));
        }
    }

    static int tell(KeepForget k, String text, int day) {
        lay(k, text);
        return k.rules(text.length(), day);
    }

    /** To be called at the end of each test's main. */
    static void end() {
        System.out.println(checked + " answers looked at, " + wrong + " not as due");
        if (wrong != 0 || checked == 0) {
            System.exit(1);
        }
    }
}
