import java.nio.charset.StandardCharsets;
import java.util.NoSuchElementException;
import java.util.Set;
import java.util.TreeSet;
import java.util.function.LongSupplier;

/** What the tests share: telling wrong answers, and laying a text on a tape. A test extends it. */
abstract class Checks {
    static final int NEVER = 999999;
    static final int LAST = 200000;
    static final int MIN = Integer.MIN_VALUE;
    static final int MAX = Integer.MAX_VALUE;
    /** What answer() tells in place of an answer. */
    static final long NO_SUCH_ELEMENT = Long.MIN_VALUE;
    static final long ILLEGAL_ARGUMENT = Long.MIN_VALUE + 1;

    private static int checked = 0;
    private static int wrong = 0;
    /** The document's words that are tested at the time; null while a test doesn't go by them. */
    private static String words = null;
    private static int sentences = 0;
    /** The words of which some answer was not as due; BrokenTest looks at them. */
    private static final Set<String> BROKEN = new TreeSet<>();

    /** A test of its own for some words of the document; a wrong answer is told with them. */
    static void sentence(String text, Runnable test) {
        int before = checked;
        words = text;
        sentences++;
        try {
            test.run();
        } catch (RuntimeException e) {
            // The other sentences are tested all the same.
            is("a call that is no test of exceptions threw " + e, true, false);
        }
        is("something was looked at", checked > before, true);
        words = null;
    }

    static void due(String call, long got, long want) {
        checked++;
        if (got != want) {
            wrong++;
            BROKEN.add(words == null ? "" : words);
            if (wrong <= 50) {
                String where = words == null ? "" : "'" + words + "': ";
                System.out.println(where + call + " answered " + told(got) + ", due is " + told(want));
            }
        }
    }

    static void due(String call, boolean got, boolean want) {
        due(call, got ? 1 : 0, want ? 1 : 0);
    }

    static void is(String call, long got, long want) {
        due(call, got, want);
    }

    static void is(String call, boolean got, boolean want) {
        due(call, got, want);
    }

    /** A call with one number that changes. */
    interface Tried {
        long with(int number);
    }

    /** Both sides of both ends of what a number may be: refused tells how the others are answered. */
    static void only(String call, int low, int high, long refused, Tried tried) {
        for (int n : new int[] {low, high}) {
            long got = answer(() -> tried.with(n));
            is(call + " of " + n + " is taken (" + told(got) + ")", got != refused, true);
        }
        for (int n : new int[] {low - 1, high + 1, MIN, MAX}) {
            is(call + " of " + n, answer(() -> tried.with(n)), refused);
        }
    }

    static void noSuch(String call, LongSupplier made) {
        due(call, answer(made), NO_SUCH_ELEMENT);
    }

    static void illegal(String call, LongSupplier made) {
        due(call, answer(made), ILLEGAL_ARGUMENT);
    }

    /** The answer, or which of the two exceptions came (not a subclass of them). */
    static long answer(LongSupplier made) {
        try {
            return made.getAsLong();
        } catch (NoSuchElementException e) {
            if (e.getClass() != NoSuchElementException.class) {
                throw e;
            }
            return NO_SUCH_ELEMENT;
        } catch (IllegalArgumentException e) {
            if (e.getClass() != IllegalArgumentException.class) {
                throw e;
            }
            return ILLEGAL_ARGUMENT;
        }
    }

    static String told(long answer) {
        return answer == NO_SUCH_ELEMENT ? "NoSuchElementException"
            : answer == ILLEGAL_ARGUMENT ? "IllegalArgumentException" : Long.toString(answer);
    }

    static byte[] bytes(String text) {
        return text.getBytes(StandardCharsets.ISO_8859_1);
    }

    /** Four bytes of a text as a number, blanks behind its end. */
    static int four(byte[] text, int at) {
        int number = 0;
        for (int i = at; i < at + 4; i++) {
            number = number << 8 | (i < text.length ? text[i] & 255 : ' ');
        }
        return number;
    }

    static void lay(KeepForget k, String text) {
        byte[] bytes = bytes(text);
        for (int i = 0; i < bytes.length; i += 20) {
            k.feed(four(bytes, i), four(bytes, i + 4), four(bytes, i + 8), four(bytes, i + 12), four(bytes, i + 16));
        }
    }

    static int tell(KeepForget k, String text, int day) {
        lay(k, text);
        return k.rules(text.length(), day);
    }

    /** An object with one thing of kind 0 and one set from day 0 on. */
    static KeepForget with(String text) {
        KeepForget k = new KeepForget();
        k.thing(0);
        is("rules of " + text, tell(k, text, 0), 0);
        return k;
    }

    /** All five parts of the span of a field of thing 0, by the set in force. */
    static void spanIs(KeepForget k, int field, int... want) {
        for (int what = 0; what < 5; what++) {
            is("span of field " + field + ", part " + what, k.span(0, field, -1, what), want[what]);
        }
    }

    /** All five parts of a line of the log. */
    static void line(KeepForget k, int i, int... want) {
        for (int what = 0; what < 5; what++) {
            is("entry(" + i + ", " + what + ")", k.entry(i, what), want[what]);
        }
    }

    /** To be called at the end of each test's main: what it throws ends the program with exit code 1. */
    static void end() {
        String of = sentences == 0 ? "" : " for " + sentences + " sentences";
        System.out.println(checked + " answers looked at" + of + ", " + wrong + " not as due");
        if (wrong != 0 || checked == 0) {
            throw new AssertionError(wrong + " answers of " + checked + " are not as due");
        }
    }
}
