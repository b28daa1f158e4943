/** Each sentence of the document's "Terms" that names a boundary, on both of its sides. */
public final class TermsTest extends Checks {
    private TermsTest() {
    }

    public static void main(String[] args) {
        calendarAndThings();
        setsInForce();
        spans();
        dueAndPlaces();
        sweeps();
        log();
        planned();
        end();
    }

    // ==== 1

    private static void calendarAndThings() {
        sentence("DAYS: 0 is the 1st of January 2000, then as in the calendar", TermsTest::firstDays);
        sentence("(leap years: by 4, but of the hundreds only by 400)", TermsTest::leapYears);
        sentence("to 200000", TermsTest::lastDay);
        sentence("A DAY and n months: the month so many later, the same day of it", TermsTest::sameDayOfMonth);
        sentence("or its last one, if it has not so many", TermsTest::lastOfMonth);
        sentence("years: twelve months each", TermsTest::years);
        sentence("THINGS, from 0 on, at most 30", TermsTest::things);
        sentence("each of a KIND (0 to 3)", TermsTest::kinds);
        sentence("with FACTS a0 to a3", TermsTest::facts);
        sentence("(0 to 9999; 0 at first)", TermsTest::factValues);
        sentence("EVENTS e0 to e3, each on a DAY or not known (at first)", TermsTest::events);
        sentence("FIELDS 0 to 7 of a THING lie as COPIES in STORES 0 to 3 (nowhere at first)", TermsTest::copies);
    }

    private static void dateIs(KeepForget k, int day, int... want) {
        is("day of " + want[0] + "-" + want[1] + "-" + want[2], k.day(want[0], want[1], want[2]), day);
        for (int what = 0; what < 3; what++) {
            is("date(" + day + ", " + what + ")", k.date(day, what), want[what]);
        }
    }

    private static void firstDays() {
        KeepForget k = new KeepForget();
        dateIs(k, 0, 2000, 1, 1);
        dateIs(k, 1, 2000, 1, 2);
        illegal("the day before", () -> k.day(1999, 12, 31));
        illegal("the day before", () -> k.date(-1, 0));
        // each month's last day and the next one's first
        int[] ends = {31, 29, 31, 30, 31, 30, 31, 31, 30, 31, 30, 31};
        int day = -1;
        for (int m = 1; m <= 12; m++) {
            day += ends[m - 1];
            dateIs(k, day, 2000, m, ends[m - 1]);
            dateIs(k, day + 1, m == 12 ? 2001 : 2000, m % 12 + 1, 1);
        }
        is("a leap year's days", day, 365);
    }

    private static void leapYears() {
        int[] leap = {2000, 2004, 2008, 2096, 2104, 2196, 2204, 2396, 2400, 2404, 2496, 2504, 2544};
        int[] common = {2001, 2002, 2003, 2005, 2095, 2097, 2100, 2200, 2300, 2399, 2401, 2500, 2501, 2546};
        KeepForget k = new KeepForget();
        for (int y : leap) {
            int day = k.day(y, 2, 28);
            dateIs(k, day + 1, y, 2, 29);
            is("the 1st of March " + y, k.day(y, 3, 1), day + 2);
            is("the days of " + y, k.day(y + 1, 1, 1) - k.day(y, 1, 1), 366);
            illegal("the 30th of February " + y, () -> k.day(y, 2, 30));
        }
        for (int y : common) {
            int day = k.day(y, 2, 28);
            dateIs(k, day + 1, y, 3, 1);
            is("the days of " + y, k.day(y + 1, 1, 1) - k.day(y, 1, 1), 365);
            illegal("the 29th of February " + y, () -> k.day(y, 2, 29));
        }
    }

    private static void lastDay() {
        KeepForget k = with("end any all 0 days from e0;");
        dateIs(k, LAST, 2547, 8, 1);
        illegal("the day behind", () -> k.day(2547, 8, 2));
        illegal("the day behind", () -> k.date(LAST + 1, 0));
        is("later", k.later(LAST, 0), LAST);
        illegal("later than the day behind", () -> k.later(LAST + 1, 0));
        is("an event", k.event(0, 0, LAST), -1);
        illegal("an event on the day behind", () -> k.event(0, 0, LAST + 1));
        is("its end", k.span(0, 0, 0, 1), LAST);
        is("a set", k.rules(0, LAST), 1);
        illegal("a set from the day behind", () -> k.rules(0, LAST + 1));
    }

    private static void laterIs(KeepForget k, int months, int year, int month, int day, int... want) {
        is(year + "-" + month + "-" + day + " and " + months + " months", k.later(k.day(year, month, day), months),
            k.day(want[0], want[1], want[2]));
    }

    private static void sameDayOfMonth() {
        KeepForget k = new KeepForget();
        laterIs(k, 0, 2001, 1, 31, 2001, 1, 31);
        laterIs(k, 1, 2001, 1, 28, 2001, 2, 28);
        laterIs(k, 1, 2004, 1, 29, 2004, 2, 29);
        laterIs(k, 1, 2001, 2, 28, 2001, 3, 28);
        laterIs(k, 1, 2004, 2, 29, 2004, 3, 29);
        laterIs(k, 2, 2001, 1, 31, 2001, 3, 31);
        laterIs(k, 1, 2001, 3, 30, 2001, 4, 30);
        laterIs(k, 1, 2001, 4, 30, 2001, 5, 30);
        laterIs(k, 1, 2001, 7, 31, 2001, 8, 31);
        laterIs(k, 1, 2001, 11, 30, 2001, 12, 30);
        laterIs(k, 1, 2001, 12, 1, 2002, 1, 1);
        laterIs(k, 1, 2001, 12, 31, 2002, 1, 31);
        laterIs(k, 11, 2001, 1, 1, 2001, 12, 1);
        laterIs(k, 12, 2001, 1, 1, 2002, 1, 1);
        laterIs(k, 13, 2001, 12, 1, 2003, 1, 1);
        laterIs(k, 48, 2000, 2, 29, 2004, 2, 29);
        laterIs(k, 4800, 2000, 2, 29, 2400, 2, 29);
        laterIs(k, 547 * 12 + 7, 2000, 1, 1, 2547, 8, 1);
    }

    private static void lastOfMonth() {
        KeepForget k = new KeepForget();
        for (int d = 29; d <= 31; d++) {
            laterIs(k, 1, 2001, 1, d, 2001, 2, 28);
            laterIs(k, 1, 2004, 1, d, 2004, 2, 29);
            laterIs(k, 1, 2100, 1, d, 2100, 2, 28);
            laterIs(k, 1, 2400, 1, d, 2400, 2, 29);
            laterIs(k, 2, 2002, 12, d, 2003, 2, 28);
            laterIs(k, 2, 2003, 12, d, 2004, 2, 29);
        }
        laterIs(k, 1, 2001, 3, 31, 2001, 4, 30);
        laterIs(k, 1, 2001, 5, 31, 2001, 6, 30);
        laterIs(k, 1, 2001, 8, 31, 2001, 9, 30);
        laterIs(k, 1, 2001, 10, 31, 2001, 11, 30);
        laterIs(k, 12, 2000, 2, 29, 2001, 2, 28);
        laterIs(k, 1200, 2000, 2, 29, 2100, 2, 28);
        laterIs(k, 4801, 2000, 1, 31, 2400, 2, 29);
    }

    private static void years() {
        KeepForget k = with("end any f0 1 years from e0; end any f1 4 years from e0; end any f2 100 years from e0;"
            + "end any f3 400 years from e0; end any f4 12 months from e0; end any f5 0 years from e0;"
            + "end any f6 11 months from e0; end any f7 13 months from e0;");
        k.event(0, 0, k.day(2000, 2, 29));
        int[][] want = {{2001, 2, 28}, {2004, 2, 29}, {2100, 2, 28}, {2400, 2, 29}, {2001, 2, 28}, {2000, 2, 29},
            {2001, 1, 29}, {2001, 3, 29}};
        for (int f = 0; f < 8; f++) {
            is("the end of field " + f, k.span(0, f, 0, 1), k.day(want[f][0], want[f][1], want[f][2]));
        }
    }

    private static void things() {
        KeepForget k = new KeepForget();
        noSuch("no thing yet", () -> k.copies(0, 0));
        for (int i = 0; i < 30; i++) {
            is("a thing", k.thing(0), i);
            is("it is there", k.copies(i, 0), 0);
            int next = i + 1;
            noSuch("the next is not", () -> k.copies(next, 0));
        }
        is("one too many", k.thing(0), -1);
        is("30 stay", k.count(1), 30);
        noSuch("it is not there", () -> k.copies(30, 0));
    }

    private static void kinds() {
        KeepForget k = new KeepForget();
        only("a kind", 0, 3, -1, k::thing);
        is("two were taken", k.count(1), 2);
        k.thing(1);
        k.thing(2);
        // thing 1 is of kind 3, things 2 and 3 of kinds 1 and 2
        int[] kinds = {0, 3, 1, 2};
        for (int t = 0; t < 4; t++) {
            k.event(t, 0, 0);
            for (int kind = 0; kind < 4; kind++) {
                KeepForget one = new KeepForget();
                one.thing(kinds[t]);
                tell(one, "place k" + kind + " all s0;", 0);
                is("k" + kind + " for kind " + kinds[t], one.places(0, 0), kind == kinds[t] ? 1 : 15);
            }
        }
    }

    private static void facts() {
        KeepForget k = with("");
        only("a fact", 0, 3, NO_SUCH_ELEMENT, fact -> k.fact(0, fact, 7));
        for (int a = 0; a < 4; a++) {
            KeepForget one = with("place any f0 s0 if a0=7; place any f1 s0 if a1=7; place any f2 s0 if a2=7;"
                + "place any f3 s0 if a3=7;");
            one.fact(0, a, 7);
            for (int f = 0; f < 4; f++) {
                is("fact a" + a + " told, a" + f + " asked", one.places(0, f), f == a ? 1 : 15);
            }
        }
        bad(1, "place any all s0 if ^a4=7;");
    }

    private static void factValues() {
        KeepForget k = with("place any f0 s0 if a0=0; place any f1 s1 if a0=9999; place any f2 s2 if a0<9999;");
        is("0 at first", k.places(0, 0), 1);
        only("a fact's value", 0, 9999, ILLEGAL_ARGUMENT, v -> k.fact(0, 0, v));
        is("the greatest stays", k.places(0, 1), 2);
        is("the greatest stays", k.places(0, 2), 15);
        for (int a = 0; a < 4; a++) {
            is("what it was", k.fact(0, a, 1), a == 0 ? 9999 : 0);
        }
    }

    private static void events() {
        KeepForget k = with("end any f0 1 days from e0; end any f1 1 days from e1; end any f2 1 days from e2;"
            + "end any f3 1 days from e3;");
        for (int e = 0; e < 4; e++) {
            is("not known", k.span(0, e, 0, 1), NEVER);
            is("at first", k.event(0, e, 10 * e), -1);
        }
        for (int e = 0; e < 4; e++) {
            is("on its day", k.span(0, e, 0, 1), 10 * e + 1);
            is("what it was", k.event(0, e, -1), 10 * e);
            is("not known again", k.span(0, e, 0, 1), NEVER);
        }
        only("an event", 0, 3, NO_SUCH_ELEMENT, e -> k.event(0, e, 0));
        only("an event's day", -1, LAST, ILLEGAL_ARGUMENT, d -> k.event(0, 0, d));
        bad(1, "end any all 1 days from ^e4;");
    }

    private static void copies() {
        KeepForget k = with("");
        for (int f = 0; f < 8; f++) {
            is("nowhere at first", k.copies(0, f), 0);
            for (int s = 0; s < 4; s++) {
                is("it comes", k.copy(0, f, s), true);
                is("it lies there", k.copies(0, f), (2 << s) - 1);
            }
        }
        is("all of them", k.count(6), 32);
        KeepForget edge = with("");
        only("a field", 0, 7, NO_SUCH_ELEMENT, f -> edge.copy(0, f, 0) ? 1 : 0);
        only("a store", 0, 3, NO_SUCH_ELEMENT, s -> edge.copy(0, 1, s) ? 1 : 0);
        is("four came", edge.count(6), 4);
    }

    // ==== 2: the texts themselves are in TextsTest

    private static void setsInForce() {
        sentence("numbered from 0 on, at most 8", TermsTest::sets);
        sentence("each from a DAY on", TermsTest::fromItsDayOn);
        sentence("of those whose DAY isn't after it that with the latest DAY", TermsTest::latestDay);
        sentence("of like ones the later told", TermsTest::laterTold);
        sentence("NONE: no RULES", TermsTest::noRules);
        sentence("RULES of a SET are numbered from 0 on", TermsTest::ruleNumbers);
        sentence("One is FOR a FIELD of a THING, if its KIND and FIELD are that (any, all: every one)", TermsTest::isFor);
        sentence("and all its TESTS hold", TermsTest::allTests);
        sentence("(FACT = , < the NUMBER)", TermsTest::oneTest);
    }

    private static void sets() {
        KeepForget k = new KeepForget();
        for (int s = 0; s < 8; s++) {
            int next = s;
            noSuch("not yet", () -> k.differ(next, 0));
            is("a set", tell(k, "place any all s0;", 0), s);
            is("it is there", k.differ(s, 0), 0);
        }
        is("one too many", tell(k, "place any all s0;", 0), -9);
        is("8 stay", k.count(2), 8);
        is("the 8th is in force", k.count(3), 7);
        noSuch("the 9th is not there", () -> k.differ(8, 0));
    }

    private static void fromItsDayOn() {
        for (int day : new int[] {0, 1, 5, 999}) {
            KeepForget k = new KeepForget();
            k.thing(0);
            tell(k, "place any all s0;", day);
            if (day > 0) {
                k.days(day - 1);
                is("the day before " + day, k.count(3), -1);
                is("the day before " + day, k.places(0, 0), 15);
                k.days(1);
            }
            is("on day " + day, k.count(3), 0);
            is("on day " + day, k.places(0, 0), 1);
            k.days(1000);
            is("from then on", k.count(3), 0);
        }
    }

    private static void latestDay() {
        KeepForget k = new KeepForget();
        k.rules(0, 7);
        k.rules(0, 3);
        k.rules(0, 5);
        int[] want = {-1, -1, -1, 1, 1, 2, 2, 0, 0};
        for (int day = 0; day < want.length; day++) {
            is("in force on day " + day, k.count(3), want[day]);
            k.days(1);
        }
        k.rules(0, 8);
        is("told after its day", k.count(3), 3);
        k.rules(0, 6);
        is("an older day told later", k.count(3), 3);
        k.rules(0, 9);
        is("today", k.count(3), 5);
        k.rules(0, 10);
        is("tomorrow", k.count(3), 5);
    }

    private static void laterTold() {
        KeepForget k = new KeepForget();
        k.rules(0, 2);
        k.rules(0, 2);
        k.rules(0, 1);
        k.rules(0, 2);
        k.rules(0, 1);
        is("none yet", k.count(3), -1);
        k.days(1);
        is("of two from day 1", k.count(3), 4);
        k.days(1);
        is("of three from day 2", k.count(3), 3);
        k.rules(0, 2);
        is("one more from day 2", k.count(3), 5);
    }

    private static void noRules() {
        KeepForget k = new KeepForget();
        k.thing(0);
        k.event(0, 0, 0);
        tell(k, "end any all 0 days from e0; keep any all 5 days from e1; place any all s1;", 1);
        is("no set", k.count(3), -1);
        is("no rules", k.count(9), 0);
        spanIs(k, 0, 0, NEVER, -1, -1, 0);
        is("everywhere", k.places(0, 0), 15);
        is("nothing ends it", k.why(0, 0), 3);
        is("a copy comes", k.copy(0, 0, 0), true);
        is("not planned", k.planned(0, 0, 0), NEVER);
        is("not misplaced", k.misplaced(), 0);
        k.days(1);
        is("a set", k.count(3), 0);
        is("its rules", k.count(9), 3);
        spanIs(k, 0, 0, 0, -1, 0, 1);
        is("its place", k.places(0, 0), 2);
        is("it ended", k.copies(0, 0), 0);
    }

    private static void ruleNumbers() {
        KeepForget k = with("end any f0 1 days from e0; place any all s0 s1 s2 s3;" + "end any f7 9 days from e0;".repeat(21)
            + "end any f1 1 days from e0;");
        k.event(0, 0, 0);
        k.copy(0, 0, 0);
        is("the first", k.span(0, 0, 0, 3), 0);
        is("the last; places have numbers, too", k.span(0, 1, 0, 3), 23);
        is("the first of the like", k.span(0, 7, 0, 3), 2);
        is("the first is for it", k.bites(0, 0), true);
        is("the place is for it", k.bites(0, 1), true);
        is("the last is not for it", k.bites(0, 23), false);
        noSuch("there are 24", () -> k.bites(0, 24) ? 1 : 0);
        noSuch("from 0 on", () -> k.bites(0, -1) ? 1 : 0);
        tell(k, "", 0);
        noSuch("a set without rules", () -> k.bites(1, 0) ? 1 : 0);
    }

    private static void isFor() {
        for (int kind = 0; kind < 4; kind++) {
            KeepForget k = new KeepForget();
            k.thing(kind);
            tell(k, "place k0 f0 s0; place k3 f7 s1; place any f6 s2; place k2 all s3;", 0);
            for (int f = 0; f < 8; f++) {
                int want = f == 0 && kind == 0 ? 1 : f == 7 && kind == 3 ? 2 : 15;
                want &= f == 6 ? 4 : 15;
                want &= kind == 2 ? 8 : 15;
                is("kind " + kind + ", field " + f, k.places(0, f), want);
            }
        }
    }

    private static void allTests() {
        int[] facts = {1, 2, 3, 4};
        for (int wrong = -1; wrong < 4; wrong++) {
            KeepForget k = with("place any all s0 if a0=1 and a1<3 and a2=3 and a3<5;");
            for (int a = 0; a < 4; a++) {
                k.fact(0, a, facts[a] + (a == wrong ? 1 : 0));
            }
            is("test " + wrong + " doesn't hold", k.places(0, 0), wrong < 0 ? 1 : 15);
        }
        KeepForget two = with("place any all s0 if a0<9 and a0=5;");
        for (int v : new int[] {4, 5, 6, 9}) {
            two.fact(0, 0, v);
            is("two tests of one fact", two.places(0, 0), v == 5 ? 1 : 15);
        }
    }

    private static void oneTest() {
        KeepForget k = with("place any f0 s0 if a0=5; place any f1 s0 if a0<5; place any f2 s0 if a0<0;"
            + "place any f3 s0 if a0=0; place any f4 s0 if a0<1; place any f5 s0 if a0<9999; place any f6 s0 if a0=9999;");
        for (int v : new int[] {0, 1, 4, 5, 6, 9998, 9999}) {
            k.fact(0, 0, v);
            boolean[] holds = {v == 5, v < 5, false, v == 0, v < 1, v < 9999, v == 9999};
            for (int f = 0; f < holds.length; f++) {
                is("field " + f + " with " + v, k.places(0, f), holds[f] ? 1 : 15);
            }
        }
    }

    /** A text with its fault, the fault's place marked by ^ in it. */
    private static void bad(int fault, String marked) {
        KeepForget k = new KeepForget();
        is("rules of " + marked, tell(k, marked.replace("^", ""), 0), -1 - fault);
        is("the fault's place in " + marked, k.fault(), marked.indexOf('^'));
    }

    // ==== 3

    private static void spans() {
        sentence("FROM, at first DAY 0, TO, at first NEVER (999999)", TermsTest::spanAtFirst);
        sentence("(of 'end'; one without it bids nothing)", TermsTest::endWithoutEvent);
        sentence("in the order of RANK (greatest first)", TermsTest::greatestRankFirst);
        sentence("of like ones of their numbers", TermsTest::likeRanks);
        sentence("(RANK is 0 without 'rank'.)", TermsTest::rankZero);
        sentence("'keep': FROM is at least EVENT and so long", TermsTest::keepAtLeast);
        sentence("(its EVENT not known: NEVER)", TermsTest::keepWithoutEvent);
        sentence("'end': TO is at most EVENT and so long", TermsTest::endAtMost);
        sentence("but a RULE by which FROM would be greater than TO is LOST instead", TermsTest::lostRules);
        sentence("and bids nothing", TermsTest::lostBidsNothing);
        sentence("(NEVER and NEVER aren't so.)", TermsTest::neverAndNever);
        sentence("What is above 200000 is NEVER.", TermsTest::aboveLastDay);
        sentence("A RULE told FROM (TO), if it made it what it is", TermsTest::toldIt);
        sentence("(the one taken first, of like ones; NONE: none did)", TermsTest::toldFirst);
    }

    private static KeepForget from(int event, String text) {
        KeepForget k = with(text);
        k.event(0, 0, event);
        return k;
    }

    private static void spanAtFirst() {
        KeepForget none = new KeepForget();
        none.thing(0);
        spanIs(none, 0, 0, 999999, -1, -1, 0);
        KeepForget k = from(0, "end any f1 5 days from e0; keep any f2 5 days from e0; place any f3 s0;");
        spanIs(k, 0, 0, 999999, -1, -1, 0);
        spanIs(k, 1, 0, 5, -1, 0, 0);
        spanIs(k, 2, 5, 999999, 1, -1, 0);
        spanIs(k, 3, 0, 999999, -1, -1, 0);
    }

    private static void endWithoutEvent() {
        KeepForget k = with("keep any all 5 days from e0 rank 1; end any all 0 days from e1;");
        k.event(0, 0, 10);
        spanIs(k, 0, 15, NEVER, 0, -1, 0);
        k.event(0, 1, 0);
        spanIs(k, 0, 15, NEVER, 0, -1, 1);
        k.event(0, 1, 15);
        spanIs(k, 0, 15, 15, 0, 1, 0);
        k.event(0, 1, -1);
        spanIs(k, 0, 15, NEVER, 0, -1, 0);
    }

    private static void greatestRankFirst() {
        int[][] ranks = {{0, 1}, {1, 2}, {9, 10}, {9998, 9999}, {0, 9999}, {99, 100}};
        for (int[] r : ranks) {
            KeepForget k = from(0, "end any f0 5 days from e0 rank " + r[0] + "; keep any f0 6 days from e0 rank " + r[1] + ";"
                + "end any f1 5 days from e0 rank " + r[1] + "; keep any f1 6 days from e0 rank " + r[0] + ";");
            spanIs(k, 0, 6, NEVER, 1, -1, 1);
            is("the lesser rank lost", k.lost(0, 0, 0, 0), 0);
            spanIs(k, 1, 0, 5, -1, 2, 1);
            is("the lesser rank lost", k.lost(0, 1, 0, 0), 3);
        }
    }

    private static void likeRanks() {
        for (String rank : new String[] {"", " rank 0", " rank 7", " rank 9999"}) {
            KeepForget k = from(0, "end any f0 5 days from e0" + rank + "; keep any f0 6 days from e0" + rank + ";"
                + "keep any f1 6 days from e0" + rank + "; end any f1 5 days from e0" + rank + ";");
            spanIs(k, 0, 0, 5, -1, 0, 1);
            is("the later number lost", k.lost(0, 0, 0, 0), 1);
            spanIs(k, 1, 6, NEVER, 2, -1, 1);
            is("the later number lost", k.lost(0, 1, 0, 0), 3);
        }
    }

    private static void rankZero() {
        KeepForget k = from(0, "end any f0 5 days from e0; keep any f0 6 days from e0 rank 0;"
            + "end any f1 5 days from e0 rank 0; keep any f1 6 days from e0;"
            + "end any f2 5 days from e0; keep any f2 6 days from e0 rank 1;");
        spanIs(k, 0, 0, 5, -1, 0, 1);
        spanIs(k, 1, 0, 5, -1, 2, 1);
        spanIs(k, 2, 6, NEVER, 5, -1, 1);
    }

    private static void keepAtLeast() {
        KeepForget k = from(10, "keep any all 5 days from e0; keep any f1 4 days from e0; keep any f2 6 days from e0;"
            + "keep any f3 5 days from e0;");
        spanIs(k, 0, 15, NEVER, 0, -1, 0);
        spanIs(k, 1, 15, NEVER, 0, -1, 0);
        spanIs(k, 2, 16, NEVER, 2, -1, 0);
        spanIs(k, 3, 15, NEVER, 0, -1, 0);
        k.copy(0, 0, 0);
        k.wish(0);
        k.days(14);
        is("the day before", k.copies(0, 0), 1);
        k.days(1);
        is("on that day", k.copies(0, 0), 0);
    }

    private static void keepWithoutEvent() {
        KeepForget k = with("keep any all 0 days from e0;");
        spanIs(k, 0, NEVER, NEVER, 0, -1, 0);
        k.event(0, 0, 1);
        spanIs(k, 0, 1, NEVER, 0, -1, 0);
        k.event(0, 0, -1);
        spanIs(k, 0, NEVER, NEVER, 0, -1, 0);
        k.wish(0);
        is("it isn't come", k.why(0, 0), 2);
    }

    private static void endAtMost() {
        KeepForget k = from(10, "end any all 5 days from e0; end any f1 4 days from e0; end any f2 6 days from e0;"
            + "end any f3 5 days from e0;");
        spanIs(k, 0, 0, 15, -1, 0, 0);
        spanIs(k, 1, 0, 14, -1, 1, 0);
        spanIs(k, 2, 0, 15, -1, 0, 0);
        spanIs(k, 3, 0, 15, -1, 0, 0);
    }

    private static void lostRules() {
        KeepForget k = from(10, "keep any f0 5 days from e0; end any f0 5 days from e0;"
            + "keep any f1 5 days from e0; end any f1 4 days from e0;"
            + "end any f2 5 days from e0; keep any f2 5 days from e0;"
            + "end any f3 5 days from e0; keep any f3 6 days from e0;"
            + "end any f4 0 days from e0; keep any f4 0 days from e0;"
            + "keep any f5 1 days from e0; end any f5 0 days from e0;");
        spanIs(k, 0, 15, 15, 0, 1, 0);
        spanIs(k, 1, 15, NEVER, 2, -1, 1);
        spanIs(k, 2, 15, 15, 5, 4, 0);
        spanIs(k, 3, 0, 15, -1, 6, 1);
        spanIs(k, 4, 10, 10, 9, 8, 0);
        spanIs(k, 5, 11, NEVER, 10, -1, 1);
        is("the end", k.lost(0, 1, 0, 0), 3);
        is("the keep", k.lost(0, 3, 0, 0), 7);
        is("the end", k.lost(0, 5, 0, 0), 11);
    }

    private static void lostBidsNothing() {
        KeepForget k = from(10, "end any f0 5 days from e0; keep any f0 9 days from e0; end any f0 3 days from e0;"
            + "keep any f0 3 days from e0; keep any f1 5 days from e0; end any f1 1 days from e0; keep any f1 7 days from e0;"
            + "end any f1 7 days from e0;");
        // rule 1 is lost: FROM stays, so that rule 2 may bring TO down, and 3 FROM up to it
        spanIs(k, 0, 13, 13, 3, 2, 1);
        spanIs(k, 1, 17, 17, 6, 7, 1);
        is("the keep", k.lost(0, 0, 0, 0), 1);
        is("the end", k.lost(0, 1, 0, 0), 5);
    }

    private static void neverAndNever() {
        KeepForget k = with("keep any f0 1 days from e1; end any f0 9999 years from e0;"
            + "keep any f1 1 days from e1; end any f1 0 days from e0;"
            + "end any f2 0 days from e0; keep any f2 1 days from e1;"
            + "keep any f3 1 days from e0; end any f3 1 days from e0;"
            + "end any f4 0 days from e0; keep any f4 1 days from e0;");
        k.event(0, 0, LAST);
        spanIs(k, 0, NEVER, NEVER, 0, -1, 0);
        spanIs(k, 1, NEVER, NEVER, 2, -1, 1);
        spanIs(k, 2, 0, LAST, -1, 4, 1);
        spanIs(k, 3, NEVER, NEVER, 6, -1, 0);
        spanIs(k, 4, 0, LAST, -1, 8, 1);
    }

    private static void aboveLastDay() {
        String[] units = {"days", "months", "years"};
        for (int u = 0; u < 3; u++) {
            KeepForget k = with("keep any f0 1 " + units[u] + " from e0; end any f1 1 " + units[u] + " from e0;"
                + "keep any f2 9999 " + units[u] + " from e0; end any f3 9999 " + units[u] + " from e0;");
            int edge = new int[] {LAST - 1, k.day(2547, 7, 1), k.day(2546, 8, 1)}[u];
            k.event(0, 0, edge);
            spanIs(k, 0, LAST, NEVER, 0, -1, 0);
            spanIs(k, 1, 0, LAST, -1, 1, 0);
            k.event(0, 0, edge + 1);
            spanIs(k, 0, NEVER, NEVER, 0, -1, 0);
            spanIs(k, 1, 0, NEVER, -1, -1, 0);
            spanIs(k, 2, NEVER, NEVER, 2, -1, 0);
            spanIs(k, 3, 0, NEVER, -1, -1, 0);
            k.event(0, 0, LAST);
            spanIs(k, 2, NEVER, NEVER, 2, -1, 0);
            spanIs(k, 3, 0, NEVER, -1, -1, 0);
        }
        KeepForget most = with("end any f0 9999 days from e0;");
        most.event(0, 0, LAST - 9999);
        is("9999 days up to the last one", most.span(0, 0, 0, 1), LAST);
        most.event(0, 0, LAST - 9998);
        is("9999 days above it", most.span(0, 0, 0, 1), NEVER);
    }

    private static void toldIt() {
        KeepForget k = from(10, "keep any all 1 days from e0 rank 9; keep any all 3 days from e0 rank 8;"
            + "keep any all 2 days from e0 rank 7; end any all 9 days from e0 rank 6; end any all 7 days from e0 rank 5;"
            + "end any all 8 days from e0 rank 4; end any all 2 days from e0 rank 3; keep any all 8 days from e0 rank 2;");
        spanIs(k, 0, 13, 17, 1, 4, 2);
        KeepForget none = from(0, "keep any f0 0 days from e0; end any f1 0 days from e0; keep any f2 1 days from e0;");
        spanIs(none, 0, 0, NEVER, -1, -1, 0);
        spanIs(none, 1, 0, 0, -1, 1, 0);
        spanIs(none, 2, 1, NEVER, 2, -1, 0);
    }

    private static void toldFirst() {
        KeepForget k = from(10, "keep any f0 5 days from e0; keep any f0 5 days from e0; end any f0 5 days from e0;"
            + "end any f0 5 days from e0; keep any f1 5 days from e0; keep any f1 5 days from e0 rank 1;"
            + "end any f1 6 days from e0; end any f1 6 days from e0 rank 1; place any f2 s0; keep any f3 1 days from e1;"
            + "keep any f3 2 days from e1;");
        spanIs(k, 0, 15, 15, 0, 2, 0);
        spanIs(k, 1, 15, 16, 5, 7, 0);
        spanIs(k, 2, 0, NEVER, -1, -1, 0);
        spanIs(k, 3, NEVER, NEVER, 9, -1, 0);
    }

    private static void dueAndPlaces() {
        sentence("HELD: some HOLD that isn't LIFTED has it.", TermsTest::held);
        sentence("DUE on a DAY: it is not HELD", TermsTest::dueNotHeld);
        sentence("FROM is not after that DAY", TermsTest::dueFrom);
        sentence("and TO isn't NEVER or it is WISHED", TermsTest::dueTo);
        sentence("PLACES: the STORES that all 'place' RULES FOR it have (all four without one).", TermsTest::places);
        sentence("A COPY elsewhere is MISPLACED.", TermsTest::misplaced);
        sentence("What is told and done goes by the SET in force NOW, if nothing else is said.", TermsTest::byTheSetOfNow);
    }

    private static void held() {
        KeepForget k = with("");
        k.thing(0);
        k.hold(0, 0b10000011);
        k.hold(0, 0b10000001);
        int[] before = {1, 1, 3, 3, 3, 3, 3, 1};
        int[] after = {1, 3, 3, 3, 3, 3, 3, 1};
        for (int f = 0; f < 8; f++) {
            is("two holds, field " + f, k.why(0, f), before[f]);
            is("another thing's field " + f, k.why(1, f), 3);
        }
        k.lift(0);
        for (int f = 0; f < 8; f++) {
            is("one hold, field " + f, k.why(0, f), after[f]);
        }
        k.lift(1);
        for (int f = 0; f < 8; f++) {
            is("no hold, field " + f, k.why(0, f), 3);
        }
        k.hold(1, 255);
        k.hold(0, 1);
        k.lift(3);
        is("another thing's hold", k.why(0, 0), 3);
        is("it isn't lifted", k.why(1, 0), 1);
        // whichever of three is lifted, the two others have their fields still
        for (int lifted = 0; lifted < 3; lifted++) {
            KeepForget three = with("");
            for (int h = 0; h < 3; h++) {
                three.hold(0, 0b1001 << h);
            }
            three.lift(lifted);
            for (int f = 0; f < 7; f++) {
                boolean isHeld = f < 6 && f % 3 != lifted;
                is("field " + f + " with hold " + lifted + " lifted", three.why(0, f), isHeld ? 1 : 3);
            }
        }
    }

    private static void dueNotHeld() {
        KeepForget k = from(0, "end any all 0 days from e0;");
        k.copy(0, 0, 0);
        k.copy(0, 1, 0);
        k.hold(0, 1);
        is("held", k.why(0, 0), 1);
        is("not held", k.why(0, 1), 0);
        is("never planned", k.planned(0, 0, 0), NEVER);
        is("those due", k.wish(0), 2);
        k.days(1000);
        is("it stays", k.copies(0, 0), 1);
        is("the other ended", k.copies(0, 1), 0);
        k.lift(0);
        is("due", k.why(0, 0), 0);
        is("it stays until a sweep", k.copies(0, 0), 1);
        k.days(1);
        line(k, 1, 0, 0, 0, 1001, 0);
    }

    private static void dueFrom() {
        KeepForget k = from(0, "keep any all 5 days from e0; end any all 9 days from e0;");
        k.copy(0, 0, 0);
        k.days(4);
        is("the day before", k.why(0, 0), 2);
        is("the day before", k.wish(0), 0);
        is("the day before", k.copies(0, 0), 1);
        is("planned", k.planned(0, 0, 0), 5);
        k.days(1);
        is("on that day", k.why(0, 0), 0);
        is("on that day", k.copies(0, 0), 0);
        is("it comes again", k.copy(0, 0, 0), true);
        is("on that day", k.wish(0), 1);
    }

    private static void dueTo() {
        KeepForget k = from(LAST - 5, "end any f0 5 days from e0; end any f1 6 days from e0;");
        is("TO is the last day", k.why(0, 0), 0);
        is("TO is above it", k.why(0, 1), 3);
        is("no TO", k.why(0, 2), 3);
        for (int f = 0; f < 3; f++) {
            k.copy(0, f, 0);
        }
        k.days(1);
        is("only the first ended", k.count(4), 1);
        is("the two others", k.wish(0), 6);
        is("wished", k.why(0, 1), 0);
        is("wished", k.why(0, 2), 0);
        k.days(1);
        is("they ended", k.count(4), 3);
    }

    private static void places() {
        KeepForget k = with("place any f0 s0 s1 s2 s3; place any f1 s0; place any f2 s3; place any f3 s0 s1 s2;"
            + "place any f3 s1 s2 s3; place any f3 s2 s0; place any f4 s0; place any f4 s1; keep any f5 1 days from e0;"
            + "place any f6 s0 if a0=1;");
        int[] want = {15, 1, 8, 4, 0, 15, 15, 15};
        for (int f = 0; f < 8; f++) {
            is("places of field " + f, k.places(0, f), want[f]);
        }
        k.fact(0, 0, 1);
        is("its test holds now", k.places(0, 6), 1);
    }

    private static void misplaced() {
        for (int s = 0; s < 4; s++) {
            KeepForget k = with("place any all s" + s + " if a0=1;");
            for (int store = 0; store < 4; store++) {
                k.copy(0, 0, store);
            }
            is("none", k.misplaced(), 0);
            k.fact(0, 0, 1);
            is("three elsewhere", k.misplaced(), 3);
            for (int store = 0; store < 4; store++) {
                is("store " + store + " for place s" + s, k.copy(0, 1, store), store == s);
            }
            is("still three", k.misplaced(), 3);
        }
    }

    private static void byTheSetOfNow() {
        KeepForget k = from(0, "place any all s0 s1; keep any all 3 days from e0; end any all 9 days from e0;");
        tell(k, "place any all s1; end any all 1 days from e0; end any all 2 days from e0;end any all 3 days from e0;", 2);
        k.copy(0, 0, 0);
        k.copy(0, 1, 1);
        k.days(1);
        int[] before = {3, 2, 3, 9, 0, 0, 3, 0};
        now(k, before);
        k.store(0, 4, 0);
        k.store(1, 1, 0);
        is("planned by the set of now", k.planned(0, 1, 1), 3);
        k.days(1);
        int[] after = {2, 0, 0, 1, 1, 1, 4, 1};
        now(k, after);
        is("swept by the set of now", k.copies(0, 1), 0);
        line(k, 0, 0, 1, 1, 2, 1);
    }

    private static void now(KeepForget k, int... want) {
        is("places", k.places(0, 0), want[0]);
        is("why", k.why(0, 0), want[1]);
        is("from", k.span(0, 0, -1, 0), want[2]);
        is("to", k.span(0, 0, -1, 1), want[3]);
        is("set", k.count(3), want[4]);
        is("misplaced", k.misplaced(), want[5]);
        is("rules", k.count(9), want[6]);
        is("due at once", k.wish(0), want[7]);
    }

    // ==== 4

    private static void sweeps() {
        sentence("A STORE SWEEPS on DAYS t on which t - first is a multiple of every", TermsTest::multiples);
        sentence("(every 1 to 400, first 0 to 399; at first 1 and 0)", TermsTest::everyAndFirst);
        sentence("t not below first", TermsTest::notBelowFirst);
        sentence("A DAY (days(), one by one): NOW is one more", TermsTest::oneByOne);
        sentence("STORES that SWEEP NOW, 0 first", TermsTest::storesInOrder);
        sentence("each COPY there that is DUE NOW, THINGS 0 first, FIELDS 0 first, is ENDED", TermsTest::copiesInOrder);
        sentence("it is no more, and the LOG has a line: THING, FIELD, STORE, DAY, by which RULE", TermsTest::noMore);
        sentence("the one that told TO (NONE: WISHED alone)", TermsTest::ruleOfLine);
    }

    private static long swept(KeepForget k, int store, int every, int first) {
        k.store(store, every, first);
        return 1;
    }

    /** On each of the days up to the last told, whether a store's copy, always due, ends. */
    private static void sweepsOn(int every, int first, int days) {
        KeepForget k = from(0, "end any all 0 days from e0;");
        k.store(2, every, first);
        for (int t = 1; t <= days; t++) {
            k.copy(0, 0, 2);
            k.days(1);
            boolean want = t >= first && (t - first) % every == 0;
            is("every " + every + " from " + first + ": day " + t, k.copies(0, 0) == 0, want);
        }
    }

    private static void multiples() {
        sweepsOn(1, 0, 10);
        sweepsOn(2, 0, 10);
        sweepsOn(2, 1, 10);
        sweepsOn(3, 2, 20);
        sweepsOn(7, 3, 40);
        sweepsOn(7, 7, 40);
        KeepForget k = from(0, "end any all 0 days from e0;");
        k.store(0, 400, 399);
        k.copy(0, 0, 0);
        is("first", k.planned(0, 0, 0), 399);
        k.days(398);
        is("the day before", k.copies(0, 0), 1);
        k.days(1);
        is("on it", k.copies(0, 0), 0);
        k.copy(0, 0, 0);
        is("and every", k.planned(0, 0, 0), 799);
        k.days(399);
        is("the day before", k.copies(0, 0), 1);
        k.days(1);
        is("on it", k.copies(0, 0), 0);
    }

    private static void everyAndFirst() {
        KeepForget k = from(0, "end any all 0 days from e0;");
        for (int s = 0; s < 4; s++) {
            k.copy(0, 0, s);
            is("at first each day", k.planned(0, 0, s), 1);
        }
        only("every", 1, 400, ILLEGAL_ARGUMENT, n -> swept(k, 0, n, 0));
        is("the greatest every", k.planned(0, 0, 0), 400);
        only("first", 0, 399, ILLEGAL_ARGUMENT, n -> swept(k, 1, 1, n));
        is("the greatest first", k.planned(0, 0, 1), 399);
        is("the others' stay", k.planned(0, 0, 2), 1);
        is("the others' stay", k.planned(0, 0, 3), 1);
        k.days(1);
        is("they swept", k.copies(0, 0), 3);
    }

    private static void notBelowFirst() {
        sweepsOn(1, 5, 8);
        sweepsOn(5, 10, 20);
        sweepsOn(2, 9, 12);
        KeepForget k = from(0, "end any all 0 days from e0;");
        k.copy(0, 0, 0);
        k.store(0, 1, 399);
        is("planned", k.planned(0, 0, 0), 399);
        k.days(398);
        is("below first", k.count(4), 0);
        k.days(1);
        line(k, 0, 0, 0, 0, 399, 0);
    }

    private static void oneByOne() {
        KeepForget k = from(0, "end any f0 9 days from e0; keep any f1 3 days from e0; end any f1 9 days from e0;");
        k.copy(0, 0, 0);
        k.copy(0, 1, 0);
        is("no day", k.days(0), 0);
        is("nothing swept", k.copies(0, 0), 1);
        is("a day", k.days(1), 1);
        is("swept", k.copies(0, 0), 0);
        is("not yet", k.copies(0, 1), 1);
        is("all days between are gone through", k.days(9), 10);
        line(k, 0, 0, 0, 0, 1, 0);
        line(k, 1, 0, 1, 0, 3, 2);
        k.copy(0, 0, 0);
        k.days(9);
        line(k, 2, 0, 0, 0, 11, 0);
        // sets that come in force on days between, one of them for a day alone
        KeepForget sets = with("");
        sets.event(0, 0, 0);
        for (int f = 0; f < 3; f++) {
            sets.copy(0, f, 0);
        }
        tell(sets, "end any f0 0 days from e0;", 4);
        tell(sets, "keep any f1 9 days from e0; end any f1 9 days from e0;", 5);
        tell(sets, "end any f2 20 days from e0;", 9);
        is("all days between are gone through", sets.days(30), 30);
        line(sets, 0, 0, 0, 0, 4, 0);
        line(sets, 1, 0, 2, 0, 9, 0);
        is("field 1 was due on no day", sets.copies(0, 1), 1);
        KeepForget only = new KeepForget();
        only.thing(0);
        only.event(0, 0, 0);
        only.copy(0, 0, 0);
        tell(only, "end any all 0 days from e0;", 4);
        only.days(30);
        line(only, 0, 0, 0, 0, 4, 0);
    }

    private static void storesInOrder() {
        KeepForget k = from(0, "end any all 0 days from e0;");
        for (int s = 3; s >= 0; s--) {
            k.copy(0, 0, s);
        }
        k.thing(0);
        k.event(1, 0, 0);
        k.copy(1, 0, 0);
        k.store(1, 2, 0);
        k.days(1);
        int[][] want = {{0, 0, 0, 1, 0}, {1, 0, 0, 1, 0}, {0, 0, 2, 1, 0}, {0, 0, 3, 1, 0}};
        for (int i = 0; i < 4; i++) {
            line(k, i, want[i]);
        }
        is("store 1 doesn't sweep", k.count(4), 4);
        k.days(1);
        line(k, 4, 0, 0, 1, 2, 0);
    }

    private static void copiesInOrder() {
        KeepForget k = from(0, "end any all 0 days from e0; keep any f3 9 days from e0 rank 1;");
        k.thing(0);
        k.event(1, 0, 0);
        for (int f = 7; f >= 0; f--) {
            k.copy(1, f, 1);
            k.copy(0, f, 1);
        }
        k.days(1);
        int i = 0;
        for (int t = 0; t < 2; t++) {
            for (int f = 0; f < 8; f++) {
                if (f != 3) {
                    line(k, i++, t, f, 1, 1, 0);
                }
            }
        }
        is("those not due stay", k.count(4), 14);
        is("those not due stay", k.count(6), 2);
    }

    private static void noMore() {
        KeepForget k = from(0, "end any all 0 days from e0;");
        k.copy(0, 5, 1);
        k.copy(0, 5, 2);
        k.store(2, 9, 9);
        k.days(1);
        is("the other stays", k.copies(0, 5), 4);
        is("one fewer", k.count(6), 1);
        is("one line", k.count(4), 1);
        line(k, 0, 0, 5, 1, 1, 0);
        is("not planned", k.planned(0, 5, 1), -1);
        is("it may come again", k.copy(0, 5, 1), true);
        k.days(8);
        is("three lines", k.count(4), 3);
        line(k, 1, 0, 5, 1, 2, 0);
        line(k, 2, 0, 5, 2, 9, 0);
    }

    private static void ruleOfLine() {
        KeepForget k = from(0, "keep any f0 1 days from e0; end any f0 9 days from e0; end any f0 8 days from e0;"
            + "end any f1 8 days from e0;");
        for (int f = 0; f < 3; f++) {
            k.copy(0, f, 0);
        }
        k.wish(0);
        k.days(1);
        line(k, 0, 0, 0, 0, 1, 2);
        line(k, 1, 0, 1, 0, 1, 3);
        line(k, 2, 0, 2, 0, 1, -1);
    }

    private static void log() {
        sentence("LATE: NOW is after TO (counted).", TermsTest::late);
        sentence("The LOG keeps the first 400 lines", TermsTest::keptLines);
        sentence("all are counted", TermsTest::countedLines);
    }

    private static void late() {
        int[][] rows = {{4, 0}, {5, 0}, {6, 1}, {7, 1}};
        for (int[] row : rows) {
            KeepForget k = from(0, "end any f0 5 days from e0;");
            k.copy(0, 0, 0);
            k.store(0, 1, row[0]);
            k.days(row[0]);
            is("swept on day " + row[0], k.count(4), 1);
            is("late on day " + row[0], k.count(5), row[1]);
        }
        KeepForget wished = from(0, "");
        wished.copy(0, 0, 0);
        wished.wish(0);
        wished.days(1);
        is("wished alone", wished.count(4), 1);
        is("wished alone is never late", wished.count(5), 0);
    }

    /** So many lines, 16 a day: of field 7 the last four of a day's, late from day 1 on. */
    private static KeepForget lines(int many) {
        KeepForget k = from(0, "end any f7 0 days from e0;");
        k.wish(0);
        int made = 0;
        while (made < many) {
            for (int i = 0; i < 16 && made < many; i++) {
                k.copy(0, 4 + i % 4, i / 4);
                made++;
            }
            k.days(1);
        }
        return k;
    }

    private static void keptLines() {
        KeepForget less = lines(399);
        line(less, 398, 0, 6, 3, 25, -1);
        noSuch("not there yet", () -> less.entry(399, 0));
        KeepForget full = lines(400);
        line(full, 399, 0, 7, 3, 25, 0);
        noSuch("not there", () -> full.entry(400, 0));
        KeepForget more = lines(401);
        line(more, 0, 0, 4, 0, 1, -1);
        line(more, 399, 0, 7, 3, 25, 0);
        noSuch("not kept", () -> more.entry(400, 0));
    }

    private static void countedLines() {
        is("399", lines(399).count(4), 399);
        is("399: late", lines(399).count(5), 99);
        is("400", lines(400).count(4), 400);
        is("400: late", lines(400).count(5), 100);
        is("401", lines(401).count(4), 401);
        is("401: late", lines(401).count(5), 100);
        is("416", lines(416).count(4), 416);
        is("416: late", lines(416).count(5), 104);
        is("416: none is there any more", lines(416).count(6), 0);
    }

    private static void planned() {
        sentence("PLANNED for a COPY: the first DAY after NOW on which its STORE SWEEPS and it would be DUE",
            TermsTest::plannedDay);
        sentence("if all stays as it is (the SET, too)", TermsTest::plannedAsItIs);
        sentence("NEVER: none up to DAY 200000", TermsTest::plannedNever);
        sentence("A WISH for a THING: all its FIELDS are WISHED from then on (TO doesn't change)", TermsTest::wish);
    }

    private static void plannedDay() {
        KeepForget k = from(0, "keep any f0 10 days from e0; end any f0 14 days from e0; end any f1 0 days from e0;");
        k.copy(0, 0, 0);
        k.copy(0, 1, 1);
        is("due now, but after now", k.planned(0, 1, 1), 1);
        is("when it is due", k.planned(0, 0, 0), 10);
        k.store(0, 9, 0);
        is("the sweep after", k.planned(0, 0, 0), 18);
        k.store(0, 10, 0);
        is("a sweep on the day", k.planned(0, 0, 0), 10);
        k.store(0, 11, 0);
        is("the sweep after", k.planned(0, 0, 0), 11);
        k.store(0, 5, 12);
        is("the first sweep", k.planned(0, 0, 0), 12);
        k.store(1, 3, 3);
        k.days(2);
        is("tomorrow", k.planned(0, 1, 1), 3);
        k.days(1);
        k.copy(0, 1, 1);
        is("not on the day itself", k.planned(0, 1, 1), 6);
        k.days(k.planned(0, 0, 0) - 3);
        line(k, k.count(4) - 1, 0, 0, 0, 12, 1);
    }

    private static void plannedAsItIs() {
        KeepForget k = from(0, "keep any all 10 days from e0; end any all 10 days from e0;");
        tell(k, "end any all 0 days from e0;", 5);
        k.copy(0, 0, 0);
        k.days(4);
        is("by the set of now", k.planned(0, 0, 0), 10);
        k.hold(0, 1);
        is("held", k.planned(0, 0, 0), NEVER);
        k.lift(0);
        k.store(0, 100, 0);
        is("as the store is", k.planned(0, 0, 0), 100);
        k.days(1);
        k.store(0, 1, 0);
        is("by the other set", k.planned(0, 0, 0), 6);
    }

    private static void plannedNever() {
        KeepForget k = from(LAST, "keep any f0 0 days from e0; keep any f1 1 days from e0; end any f2 0 days from e0;");
        for (int f = 0; f < 4; f++) {
            k.copy(0, f, 0);
        }
        is("no rule ends it", k.planned(0, 3, 0), NEVER);
        k.wish(0);
        is("on the last day", k.planned(0, 0, 0), LAST);
        is("above it", k.planned(0, 1, 0), NEVER);
        is("wished", k.planned(0, 3, 0), 1);
        k.store(0, 400, 0);
        is("the last sweep", k.planned(0, 0, 0), LAST);
        k.store(0, 399, 0);
        is("no sweep up to it", k.planned(0, 0, 0), NEVER);
        k.event(0, 0, 501 * 399);
        is("the last sweep", k.planned(0, 0, 0), 501 * 399);
        k.event(0, 0, 501 * 399 + 1);
        is("behind the last sweep", k.planned(0, 0, 0), NEVER);
    }

    private static void wish() {
        KeepForget k = from(0, "end any f1 5 days from e0;");
        k.thing(0);
        for (int f = 0; f < 8; f++) {
            is("before, field " + f, k.why(0, f), f == 1 ? 0 : 3);
        }
        k.wish(0);
        for (int f = 0; f < 8; f++) {
            is("all fields, field " + f, k.why(0, f), 0);
            is("another thing's field " + f, k.why(1, f), 3);
            is("TO of field " + f, k.span(0, f, -1, 1), f == 1 ? 5 : NEVER);
        }
        k.days(1000);
        is("from then on", k.why(0, 7), 0);
        tell(k, "", 0);
        is("by another set, too", k.why(0, 7), 0);
        is("a copy that comes later", k.copy(0, 7, 3), true);
        k.days(1);
        line(k, 0, 0, 7, 3, 1001, -1);
    }
}
