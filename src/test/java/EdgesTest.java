import java.util.function.Consumer;

/** Each sentence of the document's promises that names a boundary or a refusal, on both of its sides. */
public final class EdgesTest extends Checks {
    private EdgesTest() {
    }

    public static void main(String[] args) {
        promises1to4();
        promises5to7();
        promises8to10();
        promises11to13();
        promises14to16();
        promises17and18();
        promises19to22();
        promises23and24();
        promises25to27();
        wholeObject();
        end();
    }

    private static void promise(int number, String words, Runnable test) {
        sentence("promise " + number + ": " + words, test);
    }

    /** An object whose thing 0 has its event e0 on day 0, and one set from day 0 on. */
    private static KeepForget begun(String text) {
        KeepForget k = with(text);
        k.event(0, 0, 0);
        return k;
    }

    // ---- 1 to 4

    private static void promises1to4() {
        promise(1, "DAY 0; no THINGS, SETS, HOLDS.", EdgesTest::newObject);
        promise(2, "IllegalArgumentException: there is none such", EdgesTest::dayNoneSuch);
        promise(2, "or it is not 0 to 200000.", EdgesTest::dayOutside);
        promise(3, "Of a DAY: 0 its year, 1 month, 2 day of it.", EdgesTest::dateParts);
        promise(3, "IllegalArgumentException: it is not 0 to 200000", EdgesTest::dateOutside);
        promise(3, "another what.", EdgesTest::dateWhat);
        promise(4, "A DAY and n months (0 to 9999 times 12): the DAY", EdgesTest::laterMonths);
        promise(4, "NEVER above 200000.", EdgesTest::laterNever);
        promise(4, "IllegalArgumentException: the DAY is not 0 to 200000", EdgesTest::laterOutside);
        promise(4, "n is not as told.", EdgesTest::laterNotAsTold);
    }

    private static void newObject() {
        KeepForget k = new KeepForget();
        int[] want = {0, 0, 0, -1, 0, 0, 0, 0, 0, 0};
        for (int what = 0; what < want.length; what++) {
            is("count(" + what + ")", k.count(what), want[what]);
        }
        is("no fault", k.fault(), -1);
        is("nothing misplaced", k.misplaced(), 0);
        noSuch("no thing", () -> k.copies(0, 0));
        noSuch("no set", () -> k.differ(0, 0));
        noSuch("no hold", () -> k.lift(0) ? 1 : 0);
        noSuch("no line", () -> k.entry(0, 0));
        is("the first thing", k.thing(0), 0);
        is("it is there", k.copies(0, 0), 0);
        is("the first set", k.rules(0, 0), 0);
        is("it is there", k.differ(0, 0), 0);
        is("the first hold", k.hold(0, 1), 0);
        is("it is there", k.lift(0), true);
        is("the first day", k.days(1), 1);
        KeepForget other = new KeepForget();
        is("another new object's day", other.count(0), 0);
        is("another new object's things", other.count(1), 0);
    }

    private static void dayNoneSuch() {
        KeepForget k = new KeepForget();
        only("a month", 1, 12, ILLEGAL_ARGUMENT, m -> k.day(2001, m, 1));
        int[] ends = {31, 28, 31, 30, 31, 30, 31, 31, 30, 31, 30, 31};
        for (int m = 1; m <= 12; m++) {
            int month = m;
            only("a day of month " + m, 1, ends[m - 1], ILLEGAL_ARGUMENT, d -> k.day(2001, month, d));
        }
        only("a day of a leap year's February", 1, 29, ILLEGAL_ARGUMENT, d -> k.day(2004, 2, d));
        only("a day of February 2100", 1, 28, ILLEGAL_ARGUMENT, d -> k.day(2100, 2, d));
        only("a day of February 2400", 1, 29, ILLEGAL_ARGUMENT, d -> k.day(2400, 2, d));
    }

    private static void dayOutside() {
        KeepForget k = new KeepForget();
        only("a year", 2000, 2547, ILLEGAL_ARGUMENT, y -> k.day(y, 1, 1));
        only("a year of which the 1st of August is ours", 2000, 2547, ILLEGAL_ARGUMENT, y -> k.day(y, 8, 1));
        only("a year of which the 2nd of August is ours", 2000, 2546, ILLEGAL_ARGUMENT, y -> k.day(y, 8, 2));
        only("a month of the last year", 1, 8, ILLEGAL_ARGUMENT, m -> k.day(2547, m, 1));
        only("a day of the last month", 1, 1, ILLEGAL_ARGUMENT, d -> k.day(2547, 8, d));
        is("the first day", k.day(2000, 1, 1), 0);
        illegal("the day before it", () -> k.day(1999, 12, 31));
        is("the last day", k.day(2547, 8, 1), LAST);
        illegal("the day behind it", () -> k.day(2547, 8, 2));
        // years whose months or days are 0 to 200000 if they are cut to 32 bits
        for (int y : new int[] {357915941 + 2000, 357915942 + 2000, 11767033 + 2000, 0, -2000, 1600, 2800}) {
            illegal("the year " + y, () -> k.day(y, 1, 1));
        }
    }

    private static void dateParts() {
        KeepForget k = new KeepForget();
        int[][] rows = {{0, 2000, 1, 1}, {30, 2000, 1, 31}, {31, 2000, 2, 1}, {59, 2000, 2, 29}, {60, 2000, 3, 1},
            {365, 2000, 12, 31}, {366, 2001, 1, 1}, {424, 2001, 2, 28}, {425, 2001, 3, 1}, {36583, 2100, 2, 28},
            {36584, 2100, 3, 1}, {146096, 2399, 12, 31}, {146097, 2400, 1, 1}, {146156, 2400, 2, 29}, {146157, 2400, 3, 1},
            {199999, 2547, 7, 31}, {200000, 2547, 8, 1}};
        for (int[] row : rows) {
            for (int what = 0; what < 3; what++) {
                is("date(" + row[0] + ", " + what + ")", k.date(row[0], what), row[what + 1]);
            }
        }
    }

    private static void dateOutside() {
        KeepForget k = new KeepForget();
        for (int what = 0; what < 3; what++) {
            int asked = what;
            only("a day", 0, LAST, ILLEGAL_ARGUMENT, d -> k.date(d, asked));
        }
    }

    private static void dateWhat() {
        KeepForget k = new KeepForget();
        only("a what", 0, 2, ILLEGAL_ARGUMENT, what -> k.date(0, what));
        only("a what", 0, 2, ILLEGAL_ARGUMENT, what -> k.date(LAST, what));
        illegal("both wrong", () -> k.date(-1, 3));
    }

    private static void laterMonths() {
        KeepForget k = new KeepForget();
        is("no months", k.later(30, 0), 30);
        is("a month", k.later(30, 1), 59);
        is("as many as go up to the last day", k.later(0, 547 * 12 + 7), LAST);
        is("one more", k.later(0, 547 * 12 + 8), NEVER);
        is("as many as may be", k.later(0, 119988), NEVER);
        is("as many as may be, from the last day", k.later(LAST, 119988), NEVER);
        illegal("one more than may be", () -> k.later(0, 119989));
    }

    private static void laterNever() {
        KeepForget k = new KeepForget();
        int july = k.day(2547, 7, 1);
        is("to the last day", k.later(july, 1), LAST);
        is("a day above", k.later(july + 1, 1), NEVER);
        is("a day below", k.later(k.day(2547, 6, 30), 1), k.day(2547, 7, 30));
        is("to the month's last day, above", k.later(k.day(2547, 5, 31), 3), NEVER);
        is("the last day itself", k.later(LAST, 0), LAST);
        is("a month after the last day", k.later(LAST, 1), NEVER);
    }

    private static void laterOutside() {
        KeepForget k = new KeepForget();
        only("a day", 0, LAST, ILLEGAL_ARGUMENT, d -> k.later(d, 0));
        only("a day", 0, LAST, ILLEGAL_ARGUMENT, d -> k.later(d, 119988));
    }

    private static void laterNotAsTold() {
        KeepForget k = new KeepForget();
        only("months", 0, 119988, ILLEGAL_ARGUMENT, n -> k.later(0, n));
        only("months", 0, 119988, ILLEGAL_ARGUMENT, n -> k.later(LAST, n));
        illegal("both wrong", () -> k.later(-1, -1));
    }

    // ---- 5 to 7

    private static void promises5to7() {
        promise(5, "Twenty bytes come behind the tape, of each number the highest first", EdgesTest::feedBytes);
        promise(5, "how many it has", EdgesTest::feedCount);
        promise(5, "NONE, and none come, if it would have more than 1,000.", EdgesTest::feedFull);
        promise(6, "The tape's first n bytes", EdgesTest::rulesFirstBytes);
        promise(6, "(it is empty then)", EdgesTest::rulesEmptyThen);
        promise(6, "its number, or - 1 - its FAULT", EdgesTest::rulesAnswers);
        promise(6, "-9: there are 8.", EdgesTest::rulesFull);
        promise(6, "IllegalArgumentException: the tape has not so many", EdgesTest::rulesNotSoMany);
        promise(6, "n below 0", EdgesTest::rulesBelowZero);
        promise(6, "no such DAY", EdgesTest::rulesDay);
        promise(6, "(nothing changes)", EdgesTest::rulesRefused);
        promise(7, "The place of the latest rules()'s FAULT", EdgesTest::faultPlace);
        promise(7, "NONE without.", EdgesTest::faultNone);
    }

    private static void feedBytes() {
        // each of the twenty bytes in its turn is the first that can't stand there
        for (int at = 0; at < 20; at++) {
            int[] numbers = {0x20202020, 0x20202020, 0x20202020, 0x20202020, 0x20202020};
            numbers[at / 4] |= 0x80 << 24 - 8 * (at % 4);
            KeepForget k = new KeepForget();
            k.feed(numbers[0], numbers[1], numbers[2], numbers[3], numbers[4]);
            is("blanks before byte " + at, k.rules(20, 0), -2);
            is("byte " + at, k.fault(), at);
        }
        KeepForget k = new KeepForget();
        k.thing(0);
        k.feed(0x706c6163, 0x6520616e, 0x7920616c, 0x6c207333, 0x20202020);
        k.feed(0x73310a3b, 0, -1, MIN, MAX);
        is("'place any all s3    s1', a line's end, ';'", k.rules(24, 0), 0);
        is("it was read", k.places(0, 0), 10);
        k.feed(0x20202020, 0x20202020, 0x20202020, 0x20202020, 0x20202020);
        k.feed(0, 0, 0, 0, 0);
        is("behind the blanks", k.rules(40, 0), -2);
        is("behind the blanks", k.fault(), 20);
    }

    private static void feedCount() {
        KeepForget k = new KeepForget();
        for (int i = 1; i <= 50; i++) {
            is("feed " + i, k.feed(i, -i, 0, MIN, MAX), 20 * i);
            is("count(8)", k.count(8), 20 * i);
        }
        k.rules(0, 0);
        is("empty", k.count(8), 0);
        is("feed anew", k.feed(0, 0, 0, 0, 0), 20);
    }

    private static void feedFull() {
        KeepForget k = new KeepForget();
        for (int i = 1; i < 50; i++) {
            k.feed(0x20202020, 0x20202020, 0x20202020, 0x20202020, 0x20202020);
        }
        is("up to 1,000", k.feed(0x706c6163, 0x6520616e, 0x7920616c, 0x6c207330, 0x2020203b), 1000);
        for (int i = 0; i < 3; i++) {
            is("above it", k.feed(0, 0, 0, 0, 0), -1);
            is("none come", k.count(8), 1000);
        }
        is("what was there is there", k.rules(1000, 0), 0);
        is("a rule", k.count(9), 1);
        is("room again", k.feed(0, 0, 0, 0, 0), 20);
    }

    private static void rulesFirstBytes() {
        String text = "place any all s0;place any all s1;";
        int[][] rows = {{0, 0, 0}, {1, -2, 0}, {16, -2, 16}, {17, 0, 1}, {18, -2, 17}, {33, -2, 33}, {34, 0, 2}, {40, 0, 2}};
        for (int[] row : rows) {
            KeepForget k = new KeepForget();
            lay(k, text);
            is("the first " + row[0], k.rules(row[0], 0), row[1]);
            is("fault or rules of the first " + row[0], row[1] == 0 ? k.count(9) : k.fault(), row[2]);
        }
    }

    private static void rulesEmptyThen() {
        KeepForget k = new KeepForget();
        lay(k, "place any all s0;    place any all s1;");
        is("of a part", k.rules(17, 0), 0);
        is("empty", k.count(8), 0);
        illegal("no byte is left", () -> k.rules(1, 0));
        lay(k, "place any all s0;    place any all s1;");
        is("of none", k.rules(0, 0), 1);
        is("empty", k.count(8), 0);
        lay(k, "#");
        is("with a fault", k.rules(20, 0), -2);
        is("empty", k.count(8), 0);
        lay(k, "place any all s2;");
        is("what comes is the first", k.rules(17, 0), 2);
        lay(k, " ");
        illegal("nothing from before is behind it", () -> k.rules(21, 0));
        is("blanks alone", k.rules(20, 0), 3);
        is("no rules", k.count(9), 0);
    }

    private static void rulesAnswers() {
        KeepForget k = new KeepForget();
        is("the first", tell(k, "place any all s0;", 0), 0);
        is("fault 1", tell(k, "place any all s0", 0), -2);
        is("fault 2", tell(k, "place any all s0 rank 12345;", 0), -3);
        is("fault 3", tell(k, "place any all s0 s0;", 0), -4);
        is("faulty ones are no sets", k.count(2), 1);
        is("the next", tell(k, "place any all s0;", 0), 1);
        is("two", k.count(2), 2);
    }

    private static KeepForget withSets(int many) {
        KeepForget k = new KeepForget();
        for (int s = 0; s < many; s++) {
            k.rules(0, 0);
        }
        return k;
    }

    private static void rulesFull() {
        KeepForget k = withSets(7);
        is("7 and a faulty one", tell(k, "place", 0), -2);
        is("the 8th", tell(k, "place any all s0;", 0), 7);
        lay(k, "place any all s1;");
        is("the 9th", k.rules(17, 0), -9);
        is("8 stay", k.count(2), 8);
        is("the 8th stays in force", k.count(3), 7);
        is("its rule stays", k.count(9), 1);
        is("the tape is empty then, too", k.count(8), 0);
        is("the 9th without bytes", k.rules(0, LAST), -9);
        is("a faulty 9th", tell(k, "place any all s0 s0;", 0), -9);
        illegal("a refused call is refused still", () -> k.rules(1, 0));
        illegal("a refused call is refused still", () -> k.rules(0, LAST + 1));
    }

    private static void rulesNotSoMany() {
        KeepForget empty = new KeepForget();
        only("of an empty tape", 0, 0, ILLEGAL_ARGUMENT, n -> empty.rules(n, 0));
        for (int feeds : new int[] {1, 2, 50}) {
            for (int more : new int[] {1, 2, 20, 1000, MAX - 1000}) {
                KeepForget k = new KeepForget();
                lay(k, " ".repeat(20 * feeds));
                illegal("of " + 20 * feeds + " and " + more, () -> k.rules(20 * feeds + more, 0));
                is("of just as many", k.rules(20 * feeds, 0), 0);
            }
        }
    }

    private static void rulesBelowZero() {
        for (int n : new int[] {-1, -2, -20, MIN}) {
            KeepForget k = new KeepForget();
            lay(k, " ");
            illegal("of " + n, () -> k.rules(n, 0));
            is("of none", k.rules(0, 0), 0);
        }
    }

    private static void rulesDay() {
        KeepForget k = new KeepForget();
        only("a day", 0, LAST, ILLEGAL_ARGUMENT, d -> k.rules(0, d));
        is("two sets", k.count(2), 2);
        is("that from day 0 is in force", k.count(3), 0);
    }

    private static void rulesRefused() {
        for (int[] row : new int[][] {{21, 0}, {MAX, 0}, {-1, 0}, {MIN, 0}, {20, -1}, {20, LAST + 1}, {21, -1}, {0, MIN}, {0, MAX}}) {
            stays("rules(" + row[0] + ", " + row[1] + ")", k -> illegal("rules", () -> k.rules(row[0], row[1])));
        }
    }

    private static void faultPlace() {
        KeepForget k = new KeepForget();
        tell(k, "x", 0);
        is("the first byte", k.fault(), 0);
        tell(k, "place any all s0 s0;", 0);
        is("of the latest", k.fault(), 17);
        illegal("refused", () -> k.rules(1, 0));
        is("a refused one has none", k.fault(), 17);
        tell(k, "place any all s0" + " ".repeat(983) + "#", 0);
        is("the last byte", k.fault(), 999);
        tell(k, "place any all s0" + " ".repeat(984), 0);
        is("behind the last byte", k.fault(), 1000);
        is("it stays", k.fault(), 1000);
    }

    private static void faultNone() {
        KeepForget k = new KeepForget();
        is("before any", k.fault(), -1);
        tell(k, "place", 0);
        is("with one", k.fault(), 5);
        tell(k, "place any all s0;", 0);
        is("without", k.fault(), -1);
        tell(k, "x", 0);
        is("with one", k.fault(), 0);
        k.rules(0, 0);
        is("without", k.fault(), -1);
        KeepForget full = withSets(7);
        tell(full, "x", 0);
        full.rules(0, 0);
        is("the 8th", full.fault(), -1);
        full.rules(0, 0);
        is("the 9th", full.fault(), -1);
    }

    // ---- 8 to 10

    private static void promises8to10() {
        promise(8, "A THING: its number.", EdgesTest::thingNumber);
        promise(8, "NONE: there are 30", EdgesTest::thingFull);
        promise(8, "or no such KIND.", EdgesTest::thingKind);
        promise(9, "A FACT of a THING is v: what it was.", EdgesTest::factWas);
        promise(9, "NoSuchElementException: no such THING (as everywhere)", EdgesTest::noSuchThing);
        promise(9, ", FACT.", EdgesTest::factNumber);
        promise(9, "IllegalArgumentException: v is not 0 to 9999.", EdgesTest::factValue);
        promise(10, "An EVENT is on a DAY (NONE: not known): what it was.", EdgesTest::eventWas);
        promise(10, "NoSuchElementException: also no such EVENT.", EdgesTest::eventNumber);
        promise(10, "IllegalArgumentException: no such DAY.", EdgesTest::eventDay);
    }

    private static void thingNumber() {
        KeepForget k = new KeepForget();
        is("the first", k.thing(3), 0);
        is("refused", k.thing(4), -1);
        is("the second", k.thing(0), 1);
        is("two", k.count(1), 2);
    }

    private static void thingFull() {
        KeepForget k = new KeepForget();
        for (int i = 0; i < 29; i++) {
            k.thing(i % 4);
        }
        is("the 30th", k.thing(0), 29);
        for (int kind = 0; kind < 4; kind++) {
            is("the 31st", k.thing(kind), -1);
        }
        is("30 stay", k.count(1), 30);
        is("the last is there", k.wish(29), 0);
        noSuch("no more is there", () -> k.wish(30));
    }

    private static void thingKind() {
        KeepForget k = new KeepForget();
        only("a kind", 0, 3, -1, k::thing);
        is("two were taken", k.count(1), 2);
        for (int kind : new int[] {-1, 4, MIN, MAX}) {
            stays("thing(" + kind + ")", o -> is("thing", o.thing(kind), -1));
        }
    }

    private static void factWas() {
        KeepForget k = with("");
        k.thing(0);
        int was = 0;
        for (int v : new int[] {1, 9999, 0, 9999, 9999, 5}) {
            is("what it was", k.fact(0, 2, v), was);
            was = v;
        }
        is("another fact", k.fact(0, 1, 0), 0);
        is("another thing's", k.fact(1, 2, 0), 0);
    }

    /** Every call that names a thing refuses the others. */
    private static void noSuchThing() {
        KeepForget k = with("end any all 1 days from e0; keep any all 2 days from e0;");
        k.thing(0);
        k.event(0, 0, 0);
        k.event(1, 0, 0);
        Tried[] calls = {t -> k.fact(t, 0, 0), t -> k.event(t, 0, 0), t -> k.copy(t, 0, 0) ? 1 : 0, t -> k.copies(t, 0),
            t -> k.hold(t, 1), k::wish, t -> k.span(t, 0, -1, 0), t -> k.lost(t, 0, -1, 0), t -> k.why(t, 0),
            t -> k.places(t, 0), t -> k.planned(t, 0, 0)};
        for (int i = 0; i < calls.length; i++) {
            only("call " + i + " for thing", 0, 1, NO_SUCH_ELEMENT, calls[i]);
        }
        KeepForget none = new KeepForget();
        noSuch("there is none yet", () -> none.why(0, 0));
        for (int t : new int[] {-1, 2, MIN, MAX}) {
            stays("wrong thing " + t, o -> {
                noSuch("fact", () -> o.fact(t, 0, 1));
                noSuch("fact with a wrong value", () -> o.fact(t, 0, -1));
                noSuch("event", () -> o.event(t, 0, 1));
                noSuch("event with a wrong day", () -> o.event(t, 0, -2));
                noSuch("copy", () -> o.copy(t, 0, 0) ? 1 : 0);
                noSuch("hold", () -> o.hold(t, 1));
                noSuch("hold without bits", () -> o.hold(t, 0));
                noSuch("wish", () -> o.wish(t));
            });
        }
    }

    private static void factNumber() {
        KeepForget k = with("");
        only("a fact", 0, 3, NO_SUCH_ELEMENT, a -> k.fact(0, a, 1));
        for (int a : new int[] {-1, 4, MIN, MAX}) {
            stays("fact " + a, o -> noSuch("fact", () -> o.fact(0, a, 1)));
            noSuch("with a wrong value, too", () -> k.fact(0, a, 10000));
        }
    }

    private static void factValue() {
        KeepForget k = with("");
        only("a value", 0, 9999, ILLEGAL_ARGUMENT, v -> k.fact(0, 3, v));
        is("the last that was taken", k.fact(0, 3, 0), 9999);
        for (int v : new int[] {-1, 10000, MIN, MAX}) {
            stays("a fact's value " + v, o -> illegal("fact", () -> o.fact(0, 0, v)));
        }
    }

    private static void eventWas() {
        KeepForget k = with("");
        k.thing(0);
        int was = -1;
        for (int day : new int[] {0, LAST, -1, 5, 5, -1, -1}) {
            is("what it was", k.event(0, 2, day), was);
            was = day;
        }
        k.event(0, 2, 5);
        is("another event", k.event(0, 1, 0), -1);
        is("another thing's", k.event(1, 2, 0), -1);
    }

    private static void eventNumber() {
        KeepForget k = with("");
        only("an event", 0, 3, NO_SUCH_ELEMENT, e -> k.event(0, e, 1));
        for (int e : new int[] {-1, 4, MIN, MAX}) {
            stays("event " + e, o -> noSuch("event", () -> o.event(0, e, 1)));
            noSuch("with a wrong day, too", () -> k.event(0, e, LAST + 1));
        }
    }

    private static void eventDay() {
        KeepForget k = with("");
        only("a day or NONE", -1, LAST, ILLEGAL_ARGUMENT, d -> k.event(0, 0, d));
        is("the last that was taken", k.event(0, 0, -1), LAST);
        is("NONE was taken", k.event(0, 0, 0), -1);
        for (int d : new int[] {-2, LAST + 1, NEVER, MIN, MAX}) {
            stays("an event's day " + d, o -> illegal("event", () -> o.event(0, 0, d)));
        }
    }

    // ---- 11 to 13

    private static void promises11to13() {
        promise(11, "A COPY of a FIELD comes into a STORE: true.", EdgesTest::copyComes);
        promise(11, "False: there is one", EdgesTest::copyThere);
        promise(11, "or NOW it would be MISPLACED.", EdgesTest::copyMisplaced);
        promise(11, "NoSuchElementException: also no such FIELD, STORE.", EdgesTest::copyNoSuch);
        promise(12, "In which STORES a FIELD has COPIES, as bits.", EdgesTest::copiesBits);
        promise(12, "NoSuchElementException likewise.", EdgesTest::copiesNoSuch);
        promise(13, "When a STORE SWEEPS.", EdgesTest::storeSweeps);
        promise(13, "NoSuchElementException: no such STORE.", EdgesTest::storeNoSuch);
        promise(13, "IllegalArgumentException: numbers are not as told.", EdgesTest::storeNumbers);
    }

    private static void copyComes() {
        KeepForget k = with("");
        for (int f = 0; f < 8; f++) {
            for (int s = 0; s < 4; s++) {
                is("field " + f + " into store " + s, k.copy(0, f, s), true);
                is("it is there", (k.copies(0, f) >> s & 1) != 0, true);
                is("counted", k.count(6), 4 * f + s + 1);
            }
        }
    }

    private static void copyThere() {
        KeepForget k = begun("end any f1 0 days from e0;");
        is("it comes", k.copy(0, 0, 0), true);
        is("it is there", k.copy(0, 0, 0), false);
        is("one", k.count(6), 1);
        is("another store", k.copy(0, 0, 1), true);
        is("another field", k.copy(0, 1, 0), true);
        k.days(1);
        is("it ended: it comes again", k.copy(0, 1, 0), true);
        is("it is there", k.copy(0, 1, 0), false);
        is("held or not", k.hold(0, 1), 0);
        is("it is there still", k.copy(0, 0, 0), false);
        is("another comes, though held", k.copy(0, 0, 2), true);
    }

    private static void copyMisplaced() {
        KeepForget k = with("");
        tell(k, "place any all s0 s3; place any f1 s3; place any f2 s1;", 2);
        k.days(1);
        is("the day before", k.copy(0, 0, 1), true);
        k.days(1);
        boolean[][] want = {{true, false, false, true}, {false, false, false, true}, {false, false, false, false}};
        for (int f = 0; f < 3; f++) {
            for (int s = 0; s < 4; s++) {
                is("field " + f + ", store " + s, k.copy(0, f, s), want[f][s]);
            }
        }
        is("only those that came", k.count(6), 4);
        is("the one from before", k.misplaced(), 1);
    }

    private static void copyNoSuch() {
        KeepForget k = with("");
        only("a field", 0, 7, NO_SUCH_ELEMENT, f -> k.copy(0, f, 0) ? 1 : 0);
        only("a store", 0, 3, NO_SUCH_ELEMENT, s -> k.copy(0, 3, s) ? 1 : 0);
        is("four came", k.count(6), 4);
        for (int n : new int[] {-1, 8, 32, MIN, MAX}) {
            stays("field or store " + n, o -> {
                noSuch("copy", () -> o.copy(0, n, 0) ? 1 : 0);
                noSuch("copy", () -> o.copy(0, 0, n) ? 1 : 0);
            });
        }
    }

    private static void copiesBits() {
        for (int bits = 0; bits < 16; bits++) {
            KeepForget k = with("");
            for (int s = 0; s < 4; s++) {
                if ((bits >> s & 1) != 0) {
                    k.copy(0, 7, s);
                }
            }
            is("as bits", k.copies(0, 7), bits);
            is("another field's", k.copies(0, 6), 0);
        }
    }

    private static void copiesNoSuch() {
        KeepForget k = with("");
        only("a field", 0, 7, NO_SUCH_ELEMENT, f -> k.copies(0, f));
        only("a thing", 0, 0, NO_SUCH_ELEMENT, t -> k.copies(t, 0));
    }

    private static long swept(KeepForget k, int store, int every, int first) {
        k.store(store, every, first);
        return 1;
    }

    private static void storeSweeps() {
        KeepForget k = begun("end any all 0 days from e0;");
        for (int s = 0; s < 4; s++) {
            k.copy(0, 0, s);
        }
        k.store(0, 5, 3);
        k.store(3, 400, 399);
        int[] want = {3, 1, 1, 399};
        for (int s = 0; s < 4; s++) {
            is("store " + s, k.planned(0, 0, s), want[s]);
        }
        for (int s = 0; s < 4; s++) {
            KeepForget one = begun("end any all 0 days from e0;");
            for (int store = 0; store < 4; store++) {
                one.copy(0, 0, store);
            }
            one.store(s, 7, 0);
            for (int store = 0; store < 4; store++) {
                is("store " + store + " when " + s + " is told", one.planned(0, 0, store), store == s ? 7 : 1);
            }
        }
        k.store(0, 2, 0);
        is("told anew", k.planned(0, 0, 0), 2);
        k.days(1);
        is("1 and 2 swept", k.copies(0, 0), 9);
        k.days(1);
        is("0 swept", k.copies(0, 0), 8);
        k.store(3, 1, 0);
        k.days(1);
        is("3 swept", k.copies(0, 0), 0);
    }

    private static void storeNoSuch() {
        KeepForget k = with("");
        only("a store", 0, 3, NO_SUCH_ELEMENT, s -> swept(k, s, 1, 0));
        for (int s : new int[] {-1, 4, MIN, MAX}) {
            noSuch("with wrong numbers, too", () -> swept(k, s, 0, 400));
            stays("store " + s, o -> noSuch("store", () -> swept(o, s, 7, 7)));
        }
    }

    private static void storeNumbers() {
        KeepForget k = with("");
        only("every", 1, 400, ILLEGAL_ARGUMENT, n -> swept(k, 0, n, 399));
        only("first", 0, 399, ILLEGAL_ARGUMENT, n -> swept(k, 0, 400, n));
        illegal("both wrong", () -> swept(k, 0, 401, 400));
        for (int n : new int[] {-1, 401, MIN, MAX}) {
            stays("a store's number " + n, o -> {
                for (int s = 0; s < 4; s++) {
                    int store = s;
                    illegal("every", () -> swept(o, store, n, 7));
                    illegal("first", () -> swept(o, store, 7, n));
                }
            });
        }
        stays("every 0", o -> illegal("every", () -> swept(o, 0, 0, 7)));
        stays("first 400", o -> illegal("first", () -> swept(o, 0, 7, 400)));
    }

    // ---- 14 to 16

    private static void promises14to16() {
        promise(14, "A HOLD of a THING's FIELDS (bits 0 to 7): its number.", EdgesTest::holdBits);
        promise(14, "NONE: there are 40", EdgesTest::holdFull);
        promise(14, "no bits, or others.", EdgesTest::holdOtherBits);
        promise(14, "throws NoSuchElementException", EdgesTest::holdNoSuch);
        promise(15, "A HOLD is LIFTED: true. False: it was.", EdgesTest::liftTwice);
        promise(15, "NoSuchElementException: no such HOLD.", EdgesTest::liftNoSuch);
        promise(16, "A WISH: which FIELDS, as bits, will be DUE at once", EdgesTest::wishBits);
        promise(16, "(those with COPIES, DUE NOW)", EdgesTest::wishDueNow);
        promise(16, "throws NoSuchElementException", EdgesTest::wishNoSuch);
    }

    private static void holdBits() {
        for (int bits = 1; bits < 256; bits++) {
            KeepForget k = with("");
            is("hold of " + bits, k.hold(0, bits), 0);
            for (int f = 0; f < 8; f++) {
                is("field " + f + " with bits " + bits, k.why(0, f), (bits >> f & 1) != 0 ? 1 : 3);
            }
        }
        KeepForget k = with("");
        k.thing(0);
        is("the first", k.hold(1, 1), 0);
        is("refused", k.hold(1, 256), -1);
        is("the second", k.hold(1, 1), 1);
        is("not of thing 0", k.why(0, 0), 3);
        is("of thing 1", k.why(1, 0), 1);
    }

    private static void holdFull() {
        KeepForget k = with("");
        k.thing(0);
        for (int h = 0; h < 39; h++) {
            is("hold", k.hold(0, 1), h);
        }
        is("the 40th", k.hold(1, 1), 39);
        is("the 41st", k.hold(1, 2), -1);
        is("40 stay", k.count(7), 40);
        is("the 40th holds", k.why(1, 0), 1);
        is("the 41st doesn't", k.why(1, 1), 3);
        is("the 40th is there", k.lift(39), true);
        noSuch("the 41st is not", () -> k.lift(40) ? 1 : 0);
        is("a lifted one is one still", k.hold(1, 2), -1);
    }

    private static void holdOtherBits() {
        KeepForget k = with("");
        for (int bits : new int[] {0, 256, 257, 511, 512, 65536, 65537, -1, -256, MIN, MIN + 1, MAX}) {
            is("hold of " + bits, k.hold(0, bits), -1);
            stays("hold of " + bits, o -> is("hold", o.hold(0, bits), -1));
        }
        is("none of them", k.count(7), 0);
        for (int f = 0; f < 8; f++) {
            is("field " + f + " isn't held", k.why(0, f), 3);
        }
        is("one bit", k.hold(0, 1), 0);
        is("the greatest bit", k.hold(0, 128), 1);
        is("all bits", k.hold(0, 255), 2);
    }

    private static void holdNoSuch() {
        KeepForget k = with("");
        k.thing(0);
        only("a thing", 0, 1, NO_SUCH_ELEMENT, t -> k.hold(t, 1));
        is("those that are", k.count(7), 2);
        noSuch("without bits, too", () -> k.hold(2, 0));
    }

    private static void liftTwice() {
        KeepForget k = with("");
        k.hold(0, 1);
        k.hold(0, 1);
        is("it wasn't", k.lift(0), true);
        is("one holds still", k.why(0, 0), 1);
        is("it was", k.lift(0), false);
        is("one holds still", k.why(0, 0), 1);
        is("one is open", k.count(7), 1);
        is("it wasn't", k.lift(1), true);
        is("none holds", k.why(0, 0), 3);
        is("it was", k.lift(1), false);
        is("it was", k.lift(0), false);
        is("none is open", k.count(7), 0);
    }

    private static void liftNoSuch() {
        KeepForget k = with("");
        noSuch("none yet", () -> k.lift(0) ? 1 : 0);
        for (int h = 0; h < 3; h++) {
            k.hold(0, 1 << h);
        }
        only("a hold", 0, 2, NO_SUCH_ELEMENT, h -> k.lift(h) ? 1 : 0);
        is("two were lifted", k.count(7), 1);
        is("the lifted stay holds", k.lift(2), false);
        for (int h : new int[] {-1, 2, MIN, MAX}) {
            stays("hold " + h, o -> noSuch("lift", () -> o.lift(h) ? 1 : 0));
        }
    }

    private static void wishBits() {
        for (int bits = 0; bits < 256; bits++) {
            KeepForget k = with("");
            for (int f = 0; f < 8; f++) {
                if ((bits >> f & 1) != 0) {
                    k.copy(0, f, f % 4);
                }
            }
            is("fields with copies: " + bits, k.wish(0), bits);
        }
        KeepForget k = with("");
        k.thing(0);
        k.copy(0, 3, 0);
        k.copy(1, 3, 0);
        is("not wished", k.why(0, 3), 3);
        is("due then", k.wish(0), 8);
        is("due", k.why(0, 3), 0);
        is("the other thing isn't wished", k.why(1, 3), 3);
        k.days(1);
        is("ended", k.copies(0, 3), 0);
        is("the other stays", k.copies(1, 3), 1);
        is("no copy any more", k.wish(0), 0);
    }

    private static void wishNoSuch() {
        KeepForget k = with("");
        k.thing(0);
        only("a thing", 0, 1, NO_SUCH_ELEMENT, k::wish);
    }

    private static void wishDueNow() {
        KeepForget k = begun("keep any f1 4 days from e0; keep any f2 5 days from e0; keep any f3 6 days from e0;"
            + "end any f4 0 days from e0; keep any f7 0 days from e1;");
        for (int f = 0; f < 8; f++) {
            if (f != 5) {
                k.copy(0, f, f % 4);
            }
        }
        for (int s = 0; s < 4; s++) {
            k.store(s, 400, 399);
        }
        k.hold(0, 0b1000000);
        k.days(5);
        // 3: a day too soon; 5: no copy; 6: held; 7: its event isn't known
        is("those due", k.wish(0), 0b00010111);
        k.copy(0, 5, 3);
        is("with a copy", k.wish(0), 0b00110111);
        k.days(1);
        is("a day later", k.wish(0), 0b00111111);
        k.lift(0);
        is("not held", k.wish(0), 0b01111111);
        k.event(0, 1, 7);
        is("a day too soon", k.wish(0), 0b01111111);
        k.event(0, 1, 6);
        is("all", k.wish(0), 0b11111111);
    }

    // ---- 17 and 18

    private static void promises17and18() {
        promise(17, "Of a FIELD's SPAN by a SET (NONE: the one in force NOW)", EdgesTest::spanSet);
        promise(17, "0 FROM, 1 TO, 2 which RULE told FROM, 3 TO, 4 how many were LOST.", EdgesTest::spanParts);
        promise(17, "NoSuchElementException: also no such SET, FIELD, what.", EdgesTest::spanNoSuch);
        promise(18, "The i-th RULE that was LOST there, as they were taken.", EdgesTest::lostInOrder);
        promise(18, "NoSuchElementException: there is none.", EdgesTest::lostNoSuch);
    }

    private static void spanSet() {
        KeepForget k = new KeepForget();
        k.thing(0);
        k.event(0, 0, 0);
        is("none in force", k.span(0, 0, -1, 1), NEVER);
        tell(k, "end any all 5 days from e0;", 2);
        tell(k, "end any all 6 days from e0;", 1);
        is("none in force yet", k.span(0, 0, -1, 1), NEVER);
        is("by a set not in force", k.span(0, 0, 0, 1), 5);
        k.days(1);
        is("in force", k.span(0, 0, -1, 1), 6);
        k.days(1);
        is("in force", k.span(0, 0, -1, 1), 5);
        is("by a set told", k.span(0, 0, 1, 1), 6);
    }

    private static void spanParts() {
        KeepForget k = begun("end any f0 9 days from e0; keep any f0 3 days from e0; keep any f0 10 days from e0;"
            + "end any f0 2 days from e0; end any f0 1 days from e0; keep any f7 1 days from e0;");
        spanIs(k, 0, 3, 9, 1, 0, 3);
        spanIs(k, 1, 0, NEVER, -1, -1, 0);
        spanIs(k, 7, 1, NEVER, 5, -1, 0);
        KeepForget many = begun("end any all 0 days from e0 rank 1;" + "keep any all 1 days from e0;".repeat(23));
        spanIs(many, 0, 0, 0, -1, 0, 23);
    }

    private static void spanNoSuch() {
        KeepForget k = with("");
        only("a set or NONE", -1, 0, NO_SUCH_ELEMENT, s -> k.span(0, 0, s, 0));
        k.rules(0, LAST);
        only("a set or NONE", -1, 1, NO_SUCH_ELEMENT, s -> k.span(0, 0, s, 0));
        only("a field", 0, 7, NO_SUCH_ELEMENT, f -> k.span(0, f, 0, 0));
        only("a what", 0, 4, NO_SUCH_ELEMENT, what -> k.span(0, 0, 0, what));
        KeepForget none = new KeepForget();
        none.thing(0);
        only("NONE without a set", -1, -1, NO_SUCH_ELEMENT, s -> none.span(0, 0, s, 0));
        only("a what without a set", 0, 4, NO_SUCH_ELEMENT, what -> none.span(0, 0, -1, what));
    }

    private static void lostInOrder() {
        KeepForget k = begun("keep any all 2 days from e0; keep any all 3 days from e0 rank 5; place any all s0;"
            + "end any all 1 days from e0 rank 9; keep any all 4 days from e0 rank 5; end any all 0 days from e0;"
            + "keep any all 9 days from e1 rank 7; keep any all 1 days from e0 rank 6;");
        int[] want = {6, 1, 4, 0, 5};
        is("how many", k.span(0, 0, 0, 4), want.length);
        for (int i = 0; i < want.length; i++) {
            is("the lost one " + i, k.lost(0, 0, 0, i), want[i]);
            is("by NONE, too", k.lost(0, 0, -1, i), want[i]);
        }
        tell(k, "end any all 1 days from e0; end any f0 2 days from e0; keep any all 3 days from e0;", 1);
        is("by a set not in force", k.lost(0, 0, 1, 0), 2);
        k.days(1);
        is("by the one in force now", k.lost(0, 0, -1, 0), 2);
    }

    private static void lostNoSuch() {
        KeepForget k = begun("end any f0 0 days from e0 rank 1; keep any f0 1 days from e0; keep any f0 1 days from e0;"
            + "keep any f0 1 days from e0;");
        only("an i", 0, 2, NO_SUCH_ELEMENT, i -> k.lost(0, 0, 0, i));
        only("a set or NONE", -1, 0, NO_SUCH_ELEMENT, s -> k.lost(0, 0, s, 0));
        only("a field", 0, 0, NO_SUCH_ELEMENT, f -> k.lost(0, f, 0, 0));
        noSuch("none of the last field", () -> k.lost(0, 7, 0, 0));
        noSuch("no such field", () -> k.lost(0, 8, 0, 0));
        KeepForget all = begun("end any all 0 days from e0; keep any all 1 days from e0;");
        only("a field", 0, 7, NO_SUCH_ELEMENT, f -> all.lost(0, f, 0, 0));
        KeepForget many = begun("end any all 0 days from e0 rank 1;" + "keep any all 1 days from e0;".repeat(23));
        only("an i of as many as may be", 0, 22, NO_SUCH_ELEMENT, i -> many.lost(0, 0, 0, i));
        KeepForget none = new KeepForget();
        none.thing(0);
        noSuch("no rules", () -> none.lost(0, 0, -1, 0));
    }

    // ---- 19 to 22

    private static void promises19to22() {
        promise(19, "0 it is DUE; 1 HELD; 2 FROM isn't come; 3 no RULE ends it, nor is it WISHED.", EdgesTest::whyStays);
        promise(19, "(The first that holds, HELD first.)", EdgesTest::whyHeldFirst);
        promise(19, "Why a FIELD stays NOW", EdgesTest::whyNoSuch);
        promise(20, "PLACES of a FIELD, as bits.", EdgesTest::placesBits);
        promise(21, "How many COPIES are MISPLACED.", EdgesTest::misplacedCopies);
        promise(22, "NONE: there is no such COPY.", EdgesTest::plannedNone);
        promise(22, "NoSuchElementException: no such FIELD, STORE.", EdgesTest::plannedNoSuch);
    }

    private static void whyStays() {
        KeepForget k = begun("keep any f0 3 days from e0; end any f0 3 days from e0; keep any f1 3 days from e0;"
            + "keep any f2 1 days from e1; end any f3 9 days from e0;");
        int[] first = {2, 2, 2, 0, 3};
        int[] come = {0, 3, 2, 0, 3};
        int[] wished = {0, 0, 2, 0, 0};
        whyIs(k, first);
        k.days(2);
        whyIs(k, first);
        k.days(1);
        whyIs(k, come);
        k.wish(0);
        whyIs(k, wished);
    }

    private static void whyIs(KeepForget k, int... want) {
        for (int f = 0; f < want.length; f++) {
            is("field " + f + " on day " + k.count(0), k.why(0, f), want[f]);
        }
    }

    private static void whyHeldFirst() {
        KeepForget k = begun("keep any f0 3 days from e0; end any f1 9 days from e0; keep any f2 1 days from e1;");
        whyIs(k, 2, 0, 2, 3);
        k.hold(0, 15);
        whyIs(k, 1, 1, 1, 1);
        k.wish(0);
        whyIs(k, 1, 1, 1, 1);
        k.lift(0);
        whyIs(k, 2, 0, 2, 0);
        // FROM isn't come and no rule ends it: FROM goes first
        KeepForget both = begun("keep any f0 3 days from e0;");
        whyIs(both, 2);
    }

    private static void whyNoSuch() {
        KeepForget k = with("");
        only("a field", 0, 7, NO_SUCH_ELEMENT, f -> k.why(0, f));
        is("with a copy or without", k.why(0, 0), 3);
        k.copy(0, 0, 0);
        is("with a copy or without", k.why(0, 0), 3);
    }

    private static void placesBits() {
        for (int bits = 1; bits < 16; bits++) {
            StringBuilder stores = new StringBuilder();
            for (int s = 0; s < 4; s++) {
                stores.append((bits >> s & 1) != 0 ? " s" + s : "");
            }
            KeepForget k = with("place any f3" + stores + ";");
            is("as bits", k.places(0, 3), bits);
            is("another field's", k.places(0, 4), 15);
        }
        is("none at all", with("place any all s0; place any all s1;").places(0, 0), 0);
        KeepForget k = with("");
        only("a field", 0, 7, NO_SUCH_ELEMENT, f -> k.places(0, f));
    }

    private static void misplacedCopies() {
        KeepForget k = with("place any f1 s0 if a0=1; place any f1 s1 if a0=1; place any f2 s2 if a0=1;");
        k.thing(0);
        is("without copies", k.misplaced(), 0);
        for (int t = 0; t < 2; t++) {
            for (int f = 0; f < 3; f++) {
                for (int s = 0; s < 4; s++) {
                    k.copy(t, f, s);
                }
            }
        }
        is("all in their places", k.misplaced(), 0);
        k.fact(0, 0, 1);
        is("four that have no place, three elsewhere", k.misplaced(), 7);
        k.fact(1, 0, 1);
        is("of all things", k.misplaced(), 14);
        k.wish(0);
        k.days(1);
        is("ended ones are no more", k.misplaced(), 7);
    }

    private static void plannedNone() {
        KeepForget k = begun("end any all 0 days from e0;");
        is("no copy at all", k.planned(0, 0, 0), -1);
        k.copy(0, 0, 0);
        is("a copy", k.planned(0, 0, 0), 1);
        is("none in another store", k.planned(0, 0, 1), -1);
        is("none of another field", k.planned(0, 1, 0), -1);
        k.hold(0, 1);
        is("held", k.planned(0, 0, 0), NEVER);
        is("held, none", k.planned(0, 0, 1), -1);
        k.lift(0);
        k.days(1);
        is("ended", k.planned(0, 0, 0), -1);
    }

    private static void plannedNoSuch() {
        KeepForget k = begun("end any all 0 days from e0;");
        only("a field", 0, 7, NO_SUCH_ELEMENT, f -> k.planned(0, f, 0));
        only("a store", 0, 3, NO_SUCH_ELEMENT, s -> k.planned(0, 0, s));
        for (int s = 0; s < 4; s++) {
            k.copy(0, 0, s);
            k.copy(0, 7, s);
        }
        only("a field with copies", 0, 7, NO_SUCH_ELEMENT, f -> k.planned(0, f, 0));
        only("a store with copies", 0, 3, NO_SUCH_ELEMENT, s -> k.planned(0, 0, s));
    }

    // ---- 23 and 24

    private static void promises23and24() {
        promise(23, "Of how many FIELDS of all THINGS the SPANS by two SETS are unlike (FROM or TO).", EdgesTest::differFields);
        promise(23, "NoSuchElementException: no such SETS.", EdgesTest::differNoSuch);
        promise(24, "Whether a RULE of a SET is FOR some FIELD that has COPIES.", EdgesTest::bitesCopies);
        promise(24, "NoSuchElementException: no such SET, RULE.", EdgesTest::bitesNoSuch);
    }

    private static void differFields() {
        KeepForget k = new KeepForget();
        tell(k, "keep any f0 1 days from e0; end any f0 5 days from e0;", 0);
        tell(k, "keep any f0 2 days from e0; end any f0 5 days from e0;", 0);
        tell(k, "keep any f0 1 days from e0; end any f0 6 days from e0;", 0);
        tell(k, "end any f0 5 days from e0 rank 9; keep any f0 1 days from e0; keep any f0 7 days from e0; place any all s0;", 9);
        is("without things", k.differ(0, 1), 0);
        for (int t = 0; t < 30; t++) {
            k.thing(t % 4);
            k.event(t, 0, 0);
        }
        is("with itself", k.differ(0, 0), 0);
        is("FROM alone", k.differ(0, 1), 30);
        is("TO alone", k.differ(0, 2), 30);
        is("both", k.differ(1, 2), 30);
        is("other rules that told the same, lost ones, places", k.differ(0, 3), 0);
        tell(k, "keep any all 1 days from e3;", 0);
        is("all fields of all things", k.differ(0, 4), 240);
        k.rules(0, 0);
        is("all fields of all things", k.differ(5, 4), 240);
        is("one field of each", k.differ(5, 0), 30);
        k.event(29, 0, -1);
        is("without its event FROM is never", k.differ(5, 0), 30);
        tell(k, "end any f0 5 days from e0;", 0);
        is("an end without its event bids nothing", k.differ(5, 6), 29);
    }

    private static void differNoSuch() {
        KeepForget k = withSets(3);
        only("a set", 0, 2, NO_SUCH_ELEMENT, s -> k.differ(s, 0));
        only("another set", 0, 2, NO_SUCH_ELEMENT, s -> k.differ(0, s));
        KeepForget full = withSets(8);
        only("a set of 8", 0, 7, NO_SUCH_ELEMENT, s -> full.differ(s, 7));
        only("another set of 8", 0, 7, NO_SUCH_ELEMENT, s -> full.differ(7, s));
        KeepForget none = new KeepForget();
        noSuch("none", () -> none.differ(0, 0));
    }

    private static void bitesCopies() {
        KeepForget k = with("end any f0 1 days from e0; place k1 f7 s3; keep k0 all 1 days from e0 if a0=1;");
        k.thing(1);
        for (int r = 0; r < 3; r++) {
            is("without copies: rule " + r, k.bites(0, r), false);
        }
        k.copy(1, 7, 3);
        is("another field", k.bites(0, 0), false);
        is("its kind and field", k.bites(0, 1), true);
        is("another kind", k.bites(0, 2), false);
        k.copy(0, 7, 0);
        is("its test doesn't hold", k.bites(0, 2), false);
        k.fact(0, 0, 1);
        is("its test holds, its event isn't known", k.bites(0, 2), true);
        k.copy(0, 0, 3);
        is("its field", k.bites(0, 0), true);
        k.wish(0);
        k.event(0, 0, 0);
        k.days(1);
        is("they ended", k.bites(0, 0), false);
        is("they ended", k.bites(0, 2), false);
        is("this one didn't", k.bites(0, 1), true);
    }

    private static void bitesNoSuch() {
        KeepForget k = with("place any all s0; place any all s0;");
        only("a set", 0, 0, NO_SUCH_ELEMENT, s -> k.bites(s, 0) ? 1 : 0);
        only("a rule", 0, 1, NO_SUCH_ELEMENT, r -> k.bites(0, r) ? 1 : 0);
        tell(k, "place any all s0;".repeat(24), 0);
        only("a set", 0, 1, NO_SUCH_ELEMENT, s -> k.bites(s, 0) ? 1 : 0);
        only("a rule of 24", 0, 23, NO_SUCH_ELEMENT, r -> k.bites(1, r) ? 1 : 0);
        k.rules(0, 0);
        noSuch("a set without rules", () -> k.bites(2, 0) ? 1 : 0);
    }

    // ---- 25 to 27

    private static void promises25to27() {
        promise(25, "n DAYS: NOW.", EdgesTest::daysNow);
        promise(25, "IllegalArgumentException: n is not 0 to 1000", EdgesTest::daysNumber);
        promise(25, "or it would be above 200000.", EdgesTest::daysAbove);
        promise(26, "Of the i-th line of the LOG: 0 THING, 1 FIELD, 2 STORE, 3 DAY, 4 RULE.", EdgesTest::entryParts);
        promise(26, "NoSuchElementException: none such is kept, another what.", EdgesTest::entryNoSuch);
        promise(27, "0 NOW, 1 THINGS, 2 SETS, 3 the SET in force (NONE), 4 lines of the LOG in all, 5 LATE ones, 6 COPIES, "
            + "7 HOLDS that aren't LIFTED, 8 bytes of the tape, 9 RULES of the SET in force.", EdgesTest::counts);
        promise(27, "NoSuchElementException: another what.", EdgesTest::countNoSuch);
    }

    private static void daysNow() {
        KeepForget k = new KeepForget();
        is("none", k.days(0), 0);
        is("one", k.days(1), 1);
        is("none", k.days(0), 1);
        is("as many as may be", k.days(1000), 1001);
        is("now", k.count(0), 1001);
    }

    private static void daysNumber() {
        KeepForget k = begun("end any all 0 days from e0;");
        k.copy(0, 0, 0);
        for (int n : new int[] {-1, 1001, MIN, MAX}) {
            illegal("days of " + n, () -> k.days(n));
            is("the day stays", k.count(0), 0);
            is("nothing ended", k.count(4), 0);
            stays("days of " + n, o -> illegal("days", () -> o.days(n)));
        }
        only("days", 0, 1000, ILLEGAL_ARGUMENT, k::days);
        is("a thousand", k.count(0), 1000);
        line(k, 0, 0, 0, 0, 1, 0);
    }

    private static void daysAbove() {
        KeepForget k = begun("end any all 0 days from e0;");
        for (int i = 0; i < 199; i++) {
            k.days(1000);
        }
        k.days(500);
        k.copy(0, 0, 0);
        illegal("one too many", () -> k.days(501));
        illegal("far too many", () -> k.days(1000));
        is("the day stays", k.count(0), 199500);
        is("nothing ended", k.copies(0, 0), 1);
        is("just as many", k.days(500), LAST);
        line(k, 0, 0, 0, 0, 199501, 0);
        k.copy(0, 0, 0);
        is("not planned any more", k.planned(0, 0, 0), NEVER);
        illegal("a day behind the last", () -> k.days(1));
        is("no day", k.days(0), LAST);
        is("it stays", k.copies(0, 0), 1);
        k.rules(0, LAST);
        is("a set from the last day on", k.count(3), 1);
    }

    private static void entryParts() {
        KeepForget k = begun("end any f0 0 days from e1; end any f6 0 days from e0;");
        for (int t = 1; t < 30; t++) {
            k.thing(t % 4);
        }
        k.event(29, 0, 0);
        k.copy(29, 6, 3);
        k.days(3);
        k.copy(0, 6, 0);
        k.wish(0);
        k.copy(0, 7, 1);
        k.days(1);
        line(k, 0, 29, 6, 3, 1, 1);
        line(k, 1, 0, 6, 0, 4, 1);
        line(k, 2, 0, 7, 1, 4, -1);
    }

    private static void entryNoSuch() {
        KeepForget k = with("");
        noSuch("no line yet", () -> k.entry(0, 0));
        k.wish(0);
        for (int f = 0; f < 3; f++) {
            k.copy(0, f, 0);
        }
        noSuch("not ended yet", () -> k.entry(0, 0));
        k.days(1);
        only("a line", 0, 2, NO_SUCH_ELEMENT, i -> k.entry(i, 0));
        only("a what", 0, 4, NO_SUCH_ELEMENT, what -> k.entry(0, what));
        only("a what of the last", 0, 4, NO_SUCH_ELEMENT, what -> k.entry(2, what));
        // numbers that would be a line's if they were multiplied within 32 bits
        for (int i : new int[] {858993459, 858993460, 1717986919, -858993459}) {
            noSuch("line " + i, () -> k.entry(i, 0));
        }
    }

    private static void counts() {
        countIs(new KeepForget(), 0, 0, 0, -1, 0, 0, 0, 0, 0, 0);
        KeepForget k = begun("end any f0 0 days from e0; place any all s0 s1;");
        int[] want = {0, 1, 1, 0, 0, 0, 0, 0, 0, 2};
        countIs(k, want);
        k.days(3);
        want[0] = 3;
        countIs(k, want);
        k.thing(0);
        want[1] = 2;
        countIs(k, want);
        tell(k, "place any f7 s3;", 9);
        want[2] = 2;
        countIs(k, want);
        k.copy(0, 0, 0);
        k.copy(0, 0, 1);
        k.copy(1, 0, 0);
        want[6] = 3;
        countIs(k, want);
        k.store(1, 400, 399);
        k.days(1);
        want[0] = 4;
        want[4] = 1;
        want[5] = 1;
        want[6] = 2;
        countIs(k, want);
        k.wish(1);
        k.days(0);
        countIs(k, want);
        k.days(1);
        want[0] = 5;
        want[4] = 2;
        want[6] = 1;
        countIs(k, want);
        k.hold(0, 1);
        k.hold(1, 255);
        want[7] = 2;
        countIs(k, want);
        k.lift(0);
        want[7] = 1;
        countIs(k, want);
        k.feed(0, 0, 0, 0, 0);
        k.feed(0, 0, 0, 0, 0);
        want[8] = 40;
        countIs(k, want);
        k.days(3);
        want[0] = 8;
        countIs(k, want);
        k.days(1);
        want[0] = 9;
        want[3] = 1;
        want[9] = 1;
        countIs(k, want);
    }

    private static void countIs(KeepForget k, int... want) {
        for (int what = 0; what < want.length; what++) {
            is("count(" + what + ")", k.count(what), want[what]);
        }
    }

    private static void countNoSuch() {
        KeepForget k = new KeepForget();
        only("a what", 0, 9, NO_SUCH_ELEMENT, k::count);
    }

    // ---- the whole object

    private static void wholeObject() {
        sentence("An object is used for at most 512 calls after it has been made", EdgesTest::lastCall);
        sentence("Nothing is promised beyond the answers and state changes described above",
            EdgesTest::questionsChangeNothing);
        sentence("`NONE = -1`: There is none.", () -> is("NONE", KeepForget.NONE, -1));
    }

    private static void lastCall() {
        KeepForget days = new KeepForget();
        for (int call = 1; call <= 512; call++) {
            int n = call % 2 == 0 && call <= 400 ? 1000 : 0;
            is("call " + call, days.days(n), call <= 400 ? call / 2 * 1000 : LAST);
        }
        KeepForget texts = new KeepForget();
        for (int call = 1; call <= 512; call += 2) {
            texts.feed(0x706c6163, 0x6520616e, 0x7920616c, 0x6c207330, call < 500 ? 0x20202020 : 0x2020203b);
            is("call " + (call + 1), texts.rules(20, 0), call < 500 ? -2 : (call - 501) / 2);
        }
        // as many lines as there may be: 30 copies, a call each, end in one day
        KeepForget log = new KeepForget();
        log.thing(0);
        log.wish(0);
        int lines = 0;
        int came = 0;
        for (int call = 3; call < 512; call++) {
            if (call % 31 == 0) {
                log.days(1);
                lines += came;
                came = 0;
            } else {
                came += log.copy(0, call % 31 % 8, call % 31 / 8) ? 1 : 0;
            }
        }
        is("copies of call 497 to 511", came, 15);
        is("lines of call 3 to 496", lines, 494 - 16);
        is("the 512th call", log.count(4), lines);
    }

    private static void questionsChangeNothing() {
        stays("questions", k -> {
            for (int t = 0; t < 2; t++) {
                for (int f = 0; f < 8; f++) {
                    k.why(t, f);
                    k.places(t, f);
                    k.copies(t, f);
                    k.planned(t, f, f % 4);
                    k.span(t, f, f % 3 - 1, f % 5);
                }
            }
            noSuch("lost", () -> k.lost(0, 7, -1, 0));
            k.misplaced();
            k.differ(0, 1);
            k.bites(0, 0);
            k.entry(0, 0);
            k.fault();
            k.day(2000, 1, 1);
            k.date(0, 0);
            k.later(0, 1);
            k.days(0);
        });
    }

    // ---- what a refused call leaves as it was

    /** After the calls told, an object of some standing tells all that it told without them. */
    private static void stays(String what, Consumer<KeepForget> calls) {
        KeepForget touched = standing();
        calls.accept(touched);
        String with = seen(touched);
        String without = seen(standing());
        is(what + " changes nothing (" + difference(with, without) + ")", with.equals(without), true);
    }

    private static String difference(String with, String without) {
        String[] a = with.split("\n");
        String[] b = without.split("\n");
        for (int i = 0; i < a.length && i < b.length; i++) {
            if (!a[i].equals(b[i])) {
                return a[i] + ", without it " + b[i];
            }
        }
        return "no difference";
    }

    private static KeepForget standing() {
        KeepForget k = new KeepForget();
        k.thing(1);
        k.thing(2);
        for (int i = 0; i < 4; i++) {
            k.fact(0, i, 5 + i);
            k.event(0, i, 10 * i);
        }
        k.event(1, 1, 3);
        tell(k, "end any f0 2 days from e0; keep any f1 9 days from e1; place any f3 s0 s1; end any f2 500 days from e2;", 0);
        tell(k, "end k1 all 400 days from e0 if a0=5; end any f1 1 days from e1;", 3);
        k.store(1, 5, 2);
        k.store(2, 399, 6);
        k.hold(0, 6);
        k.hold(1, 1);
        k.lift(1);
        for (int s = 0; s < 4; s++) {
            k.copy(0, 0, s);
            k.copy(1, 1, s);
        }
        k.days(4);
        k.copy(0, 3, 3);
        k.copy(0, 0, 0);
        tell(k, "place any all s0 s0;", 0);
        lay(k, "place any all s0;");
        return k;
    }

    private static void see(StringBuilder text, String what, long value) {
        text.append(what).append(" = ").append(value).append('\n');
    }

    /** All that an object with two things tells; it isn't used any more then. */
    private static String seen(KeepForget k) {
        StringBuilder text = new StringBuilder();
        for (int what = 0; what < 10; what++) {
            see(text, "count " + what, k.count(what));
        }
        see(text, "fault", k.fault());
        see(text, "misplaced", k.misplaced());
        see(text, "differ", k.differ(0, 1));
        for (int i = 0; i < k.count(4); i++) {
            see(text, "line " + i, k.entry(i, 0) * 1000 + k.entry(i, 2) * 100 + k.entry(i, 3));
        }
        for (int s = 0; s < 4; s++) {
            k.copy(0, 0, s);
            see(text, "sweep " + s, k.planned(0, 0, s));
        }
        for (int t = 0; t < 2; t++) {
            for (int f = 0; f < 8; f++) {
                see(text, "copies " + t + " " + f, k.copies(t, f));
                see(text, "why " + t + " " + f, k.why(t, f));
                see(text, "from " + t + " " + f, k.span(t, f, -1, 0));
                see(text, "to " + t + " " + f, k.span(t, f, -1, 1));
            }
            for (int i = 0; i < 4; i++) {
                see(text, "fact " + t + " " + i, k.fact(t, i, 0));
                see(text, "event " + t + " " + i, k.event(t, i, 0));
            }
        }
        lastSeen(k, text);
        return text.toString();
    }

    /** What can't be asked without a change. */
    private static void lastSeen(KeepForget k, StringBuilder text) {
        see(text, "due", k.wish(0));
        see(text, "lift", k.lift(0) ? 1 : 0);
        see(text, "lift", k.lift(1) ? 1 : 0);
        see(text, "hold", k.hold(0, 1));
        see(text, "thing", k.thing(0));
        see(text, "tape", k.rules(20, 0));
        see(text, "days", k.days(1000));
        see(text, "lines", k.count(4));
        see(text, "left", k.count(6));
    }
}
