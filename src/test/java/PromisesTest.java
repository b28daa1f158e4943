import java.time.LocalDate;
import java.time.temporal.ChronoUnit;

/** Each promise by itself: ordinary inputs, the edges that the document names, wrong inputs. */
public final class PromisesTest extends Checks {
    private static final LocalDate FIRST = LocalDate.of(2000, 1, 1);

    private PromisesTest() {
    }

    public static void main(String[] args) {
        newObject();
        day();
        date();
        later();
        feed();
        rules();
        rulesGrammar();
        rulesFaults();
        rulesTooMuch();
        fault();
        thing();
        fact();
        event();
        copy();
        copies();
        store();
        hold();
        lift();
        wish();
        span();
        spanOfManyRules();
        spanTests();
        spanEdges();
        setInForce();
        lost();
        why();
        places();
        misplaced();
        planned();
        differ();
        bites();
        days();
        daysInOrder();
        daysAndSets();
        late();
        entry();
        logIsFull();
        count();
        Checks.end();
    }

    // ---- 1

    private static void newObject() {
        KeepForget k = new KeepForget();
        int[] want = {0, 0, 0, KeepForget.NONE, 0, 0, 0, 0, 0, 0};
        for (int i = 0; i < want.length; i++) {
            is("new: count(" + i + ")", k.count(i), want[i]);
        }
        is("NONE", KeepForget.NONE, -1);
        is("new: fault", k.fault(), -1);
        is("new: misplaced", k.misplaced(), 0);
        Checks.noSuch("new: entry", () -> k.entry(0, 0));
        Checks.noSuch("new: lift", () -> k.lift(0) ? 1 : 0);
        Checks.noSuch("new: copies", () -> k.copies(0, 0));
        Checks.noSuch("new: differ", () -> k.differ(0, 0));
    }

    // ---- 2, 3, 4

    /** Nothing is promised of an object after 512 calls: long rows of calls take a new one now and then. */
    private static KeepForget fresh(KeepForget k, int call) {
        return call % 100 == 0 ? new KeepForget() : k;
    }

    private static void day() {
        KeepForget each = new KeepForget();
        for (int d = 0; d <= LAST; d++) {
            each = fresh(each, d);
            LocalDate at = FIRST.plusDays(d);
            is("day of " + at, each.day(at.getYear(), at.getMonthValue(), at.getDayOfMonth()), d);
        }
        KeepForget k = new KeepForget();
        LocalDate last = FIRST.plusDays(LAST);
        is("the last day's year", last.getYear(), 2547);
        int[][] none = {
            {1999, 12, 31}, {2547, 8, 2}, {2547, 8, 31}, {2547, 9, 1}, {2547, 12, 31}, {2548, 1, 1}, {2000, 0, 1},
            {2000, 13, 1}, {2000, 1, 0}, {2000, 1, 32}, {2000, 4, 31}, {2000, 2, 30}, {2001, 2, 29}, {2100, 2, 29},
            {2200, 2, 29}, {2300, 2, 29}, {2500, 2, 29}, {2001, 6, 31}, {2001, 9, 31}, {2001, 11, 31}, {0, 1, 1},
            {MIN, 1, 1}, {MAX, 1, 1}, {2000, MIN, 1}, {2000, MAX, 1}, {2000, 1, MIN}, {2000, 1, MAX},
            {MAX, MAX, MAX}, {MIN, MIN, MIN}, {-2000, 1, 1}, {357915941, 8, 1},
        };
        for (int[] n : none) {
            Checks.illegal("day(" + n[0] + ", " + n[1] + ", " + n[2] + ")", () -> k.day(n[0], n[1], n[2]));
        }
        is("day(2400, 2, 29)", k.day(2400, 2, 29), ChronoUnit.DAYS.between(FIRST, LocalDate.of(2400, 2, 29)));
    }

    private static void date() {
        KeepForget each = new KeepForget();
        for (int d = 0; d <= LAST; d++) {
            each = fresh(each, d);
            LocalDate at = FIRST.plusDays(d);
            is("date(" + d + ", 0)", each.date(d, 0), at.getYear());
            is("date(" + d + ", 1)", each.date(d, 1), at.getMonthValue());
            is("date(" + d + ", 2)", each.date(d, 2), at.getDayOfMonth());
        }
        KeepForget k = new KeepForget();
        for (int d : new int[] {-1, LAST + 1, MIN, MAX}) {
            Checks.illegal("date(" + d + ", 0)", () -> k.date(d, 0));
        }
        for (int what : new int[] {-1, 3, MIN, MAX}) {
            Checks.illegal("date(0, " + what + ")", () -> k.date(0, what));
        }
    }

    private static void later() {
        KeepForget each = new KeepForget();
        for (int d = 0; d <= LAST; d += 7) {
            each = fresh(each, d / 7 * 4);
            for (int months : new int[] {0, 1, 2, 11, 12, 13, 25, 48, 1200, 4800, 119988}) {
                LocalDate at = FIRST.plusDays(d).plusMonths(months);
                long want = ChronoUnit.DAYS.between(FIRST, at);
                is("later(" + d + ", " + months + ")", each.later(d, months), want > LAST ? Checks.NEVER : want);
            }
        }
        KeepForget k = new KeepForget();
        is("31st of January and a month", k.later(30, 1), 59);
        is("29th of February and a year", k.later(59, 12), 424);
        is("the last day", k.later(LAST, 0), LAST);
        is("up to the last day", k.later(k.day(2547, 7, 1), 1), LAST);
        is("above the last day", k.later(k.day(2547, 7, 2), 1), Checks.NEVER);
        for (int d : new int[] {-1, LAST + 1, MIN, MAX}) {
            Checks.illegal("later(" + d + ", 0)", () -> k.later(d, 0));
        }
        for (int n : new int[] {-1, 119989, MIN, MAX}) {
            Checks.illegal("later(0, " + n + ")", () -> k.later(0, n));
        }
    }

    // ---- 5, 6, 7

    private static void feed() {
        KeepForget k = new KeepForget();
        for (int i = 1; i <= 50; i++) {
            is("feed", k.feed(0, 0, 0, 0, 0), 20 * i);
        }
        is("feed of too much", k.feed(0, 0, 0, 0, 0), -1);
        is("nothing came", k.count(8), 1000);
        is("bytes 0 are no tokens", k.rules(1000, 0), -2);
        is("empty then", k.count(8), 0);
        is("feed anew", k.feed(0, 0, 0, 0, 0), 20);
        KeepForget order = new KeepForget();
        // "end " "any " "f0 1" " day" "s fr" | "om e" "0;  " ...
        order.feed(0x656e6420, 0x616e7920, 0x66302031, 0x20646179, 0x73206672);
        order.feed(0x6f6d2065, 0x303b2020, 0x20202020, 0x20202020, 0xffffffff);
        is("highest byte first", order.rules(36, 0), 0);
        is("one rule", order.count(9), 1);
    }

    private static void rules() {
        KeepForget k = new KeepForget();
        is("no bytes: a set without rules", k.rules(0, 0), 0);
        is("without rules", k.count(9), 0);
        Checks.lay(k, "end any all 1 days from e0;");
        is("two feeds", k.count(8), 40);
        Checks.illegal("more than there are", () -> k.rules(41, 0));
        Checks.illegal("below 0", () -> k.rules(-1, 0));
        Checks.illegal("far below 0", () -> k.rules(MIN, 0));
        Checks.illegal("far above", () -> k.rules(MAX, 0));
        Checks.illegal("no such day", () -> k.rules(27, -1));
        Checks.illegal("no such day", () -> k.rules(27, LAST + 1));
        is("nothing changed on the tape", k.count(8), 40);
        is("nothing changed in the sets", k.count(2), 1);
        is("blanks behind", k.rules(40, LAST), 1);
        is("the whole tape is empty", k.count(8), 0);
        Checks.lay(k, "end any all 1 days from e0;end");
        is("only the first n bytes", k.rules(27, 0), 2);
        Checks.lay(k, "keepsake");
        is("a word is cut", k.rules(4, 0), -2);
        is("behind its bytes", k.fault(), 4);
        Checks.lay(k, "end any f0 12345");
        is("a number is cut", k.rules(15, 0), -2);
        is("behind its bytes", k.fault(), 15);
        for (int i = 3; i < 8; i++) {
            is("a faulty set is none", Checks.tell(k, "end", 0), -2);
            is("more sets", Checks.tell(k, "place any all s0;", 0), i);
        }
        Checks.lay(k, "place any all s0;");
        is("there are 8", k.rules(17, 0), -9);
        is("empty then, too", k.count(8), 0);
        is("no fault", k.fault(), -1);
        is("there are 8, faulty or not", Checks.tell(k, "#", 0), -9);
        is("8 it stays", k.count(2), 8);
        Checks.illegal("the wrong n goes first", () -> k.rules(1, 0));
        Checks.illegal("the wrong day goes first", () -> k.rules(0, -1));
    }

    private static void rulesGrammar() {
        String[] good = {
            "", " ", "\n \n", "keep any all 1 days from e0;", "end k0 f0 9999 months from e1 ;",
            "end k3 f7 0 years from e3 rank 9999;", "keep any f4 10days from e0;", "keep any f4 10 days from e0 if a0=1;",
            "keep any f4 10 days from e0 if a0 = 1 and a1<2and a2=3and a3=4rank 5;", "place any all s0;",
            "place k1 f1 s3 s2 s1 s0;", "place k2 all s1 if a0<9999 rank 0;", "\nplace\nany\nall\ns0\n;\n",
            "keep any all 0001 days from e0;", "keep any all 1 days from e0;end any all 1 days from e0;",
            "place any all s0 rank 1;place any all s0 rank 1;", "place any all s0 if a0=0and a0=0 and a0=0 and a0<0;",
        };
        for (String text : good) {
            KeepForget k = new KeepForget();
            is("rules of '" + text + "'", Checks.tell(k, text, 0), 0);
            is("fault of '" + text + "'", k.fault(), -1);
        }
    }

    private static void bad(String text, int fault, int place) {
        KeepForget k = new KeepForget();
        is("rules of '" + text + "'", Checks.tell(k, text, 0), -1 - fault);
        is("fault of '" + text + "'", k.fault(), place);
        is("no set of '" + text + "'", k.count(2), 0);
    }

    private static void rulesFaults() {
        bad("keep", 1, 4);
        bad("keep  ", 1, 6);
        bad("keepx", 1, 0);
        bad("kee", 1, 0);
        bad("keepz", 1, 0);
        bad("keepa", 1, 0);
        bad("keep9", 1, 0);
        bad("keep0", 1, 0);
        bad("keep{", 1, 4);
        bad("keep`", 1, 4);
        bad("keep:", 1, 4);
        bad("keep/", 1, 4);
        bad("beep any", 1, 0);
        bad("place any ball", 1, 10);
        bad(" Keep", 1, 1);
        bad("\tkeep", 1, 0);
        bad("\r", 1, 0);
        bad(";", 1, 0);
        bad("1", 1, 0);
        bad("12345", 1, 0);
        bad("rank", 1, 0);
        bad("#", 1, 0);
        bad("\u00ff", 1, 0);
        bad("\u00eb", 1, 0);
        bad("keep#", 1, 4);
        bad("keep place x", 1, 5);
        bad("keep k4 all 1 days from e0;", 1, 5);
        bad("keep k all 1 days from e0;", 1, 5);
        bad("keep k00 all 1 days from e0;", 1, 5);
        bad("keep kx all 1 days from e0;", 1, 5);
        bad("keep all all 1 days from e0;", 1, 5);
        bad("keep anyall 1 days from e0;", 1, 5);
        bad("keep any f8 1 days from e0;", 1, 9);
        bad("keep any any 1 days from e0;", 1, 9);
        bad("keep any f0 days from e0;", 1, 12);
        bad("keep any f0 s0;", 1, 12);
        bad("keep any f0 12345 days from e0;", 2, 12);
        bad("keep any f0 00001 days from e0;", 2, 12);
        bad("keep any f0 1234567890123456789 days from e0;", 2, 12);
        bad("keep any f0 1 day from e0;", 1, 14);
        bad("keep any f0 1 2 days from e0;", 1, 14);
        bad("keep any f0 1 days of e0;", 1, 19);
        bad("keep any f0 1 days from e4;", 1, 24);
        bad("keep any f0 1 days from a0;", 1, 24);
        bad("keep any f0 1 days from e0", 1, 26);
        bad("keep any f0 1 days from e0 ", 1, 27);
        bad("keep any f0 1 days from e0=", 1, 26);
        bad("keep any f0 1 days from e0 if", 1, 29);
        bad("keep any f0 1 days from e0 if;", 1, 29);
        bad("keep any f0 1 days from e0 if e0=1;", 1, 30);
        bad("keep any f0 1 days from e0 if a4=1;", 1, 30);
        bad("keep any f0 1 days from e0 if a0>1;", 1, 32);
        bad("keep any f0 1 days from e0 if a0;", 1, 32);
        bad("keep any f0 1 days from e0 if a0==1;", 1, 33);
        bad("keep any f0 1 days from e0 if a0=a1;", 1, 33);
        bad("keep any f0 1 days from e0 if a0=10000;", 2, 33);
        bad("keep any f0 1 days from e0 if a0<00000;", 2, 33);
        bad("keep any f0 1 days from e0 if a0=1 and;", 1, 38);
        bad("keep any f0 1 days from e0 if a0=1 if a0=1;", 1, 35);
        bad("keep any f0 1 days from e0 and a0=1;", 1, 27);
        bad("keep any f0 1 days from e0 rank;", 1, 31);
        bad("keep any f0 1 days from e0 rank 10000;", 2, 32);
        bad("keep any f0 1 days from e0 rank 1 rank 1;", 1, 34);
        bad("keep any f0 1 days from e0 rank 1 if a0=1;", 1, 34);
        bad("keep any f0 1 days from e0;;", 1, 27);
        bad("keep any f0 1 days from e0;x", 1, 27);
        bad("keep any f0 1 days from e0; 1", 1, 28);
        bad("place any f0;", 1, 12);
        bad("place any f0 ;", 1, 13);
        bad("place any f0 1 days from e0;", 1, 13);
        bad("place any f0 s4;", 1, 13);
        bad("place any f0 s0 s4;", 1, 16);
        bad("place any f0 s0 s0;", 3, 16);
        bad("place any f0 s0 s1 s2 s3 s1;", 3, 25);
        bad("place any f0 s0 from e0;", 1, 16);
        bad("place any f0 s0 12345;", 1, 16);
        bad("place any f0 s0 s1", 1, 18);
        bad("place any all s0;place any all s1 s1;", 3, 34);
    }

    private static void rulesTooMuch() {
        String four = "place any all s0 if a0=1 and a1=1 and a2=1 and a3=1";
        is("four tests", Checks.tell(new KeepForget(), four + ";", 0), 0);
        bad(four + " and a0=1;", 2, four.length() + 5);
        bad(four + " and e0=1;", 1, four.length() + 5);
        bad(four + " and", 1, four.length() + 4);
        bad(four + " and a0", 2, four.length() + 5);
        String rule = "place any all s0;";
        String many = rule.repeat(24);
        KeepForget k = new KeepForget();
        is("24 rules", Checks.tell(k, many, 0), 0);
        is("24 rules are counted", k.count(9), 24);
        bad(many + rule, 2, many.length());
        bad(many + " end", 2, many.length() + 1);
        bad(many + "keep;", 2, many.length());
        bad(many + "s0", 1, many.length());
        bad(many + "#", 1, many.length());
        String whole = many + " ".repeat(1000 - many.length());
        is("1000 bytes", Checks.tell(new KeepForget(), whole, 0), 0);
    }

    private static void fault() {
        KeepForget k = new KeepForget();
        Checks.tell(k, "end any x", 0);
        is("of the latest", k.fault(), 8);
        Checks.illegal("a wrong call", () -> k.rules(1, 0));
        is("not changed by a wrong call", k.fault(), 8);
        Checks.tell(k, "end x", 0);
        is("of the latest", k.fault(), 4);
        k.rules(0, 0);
        is("none without", k.fault(), -1);
    }

    // ---- 8, 9, 10

    private static void thing() {
        KeepForget k = new KeepForget();
        is("no such kind", k.thing(-1), -1);
        is("no such kind", k.thing(4), -1);
        is("no such kind", k.thing(MIN), -1);
        is("no such kind", k.thing(MAX), -1);
        for (int i = 0; i < 30; i++) {
            is("thing", k.thing(i % 4), i);
        }
        is("there are 30", k.thing(0), -1);
        is("30 are counted", k.count(1), 30);
        is("the last is one", k.copies(29, 0), 0);
        Checks.noSuch("the 31st is none", () -> k.copies(30, 0));
    }

    private static void fact() {
        KeepForget k = new KeepForget();
        k.thing(0);
        k.thing(0);
        for (int f = 0; f < 4; f++) {
            is("fact at first", k.fact(0, f, 9999 - f), 0);
        }
        for (int f = 0; f < 4; f++) {
            is("what it was", k.fact(0, f, 0), 9999 - f);
            is("of the other thing", k.fact(1, f, 0), 0);
        }
        for (int thing : new int[] {-1, 2, MIN, MAX}) {
            Checks.noSuch("no such thing", () -> k.fact(thing, 0, 0));
        }
        for (int fact : new int[] {-1, 4, MIN, MAX}) {
            Checks.noSuch("no such fact", () -> k.fact(0, fact, 0));
        }
        for (int v : new int[] {-1, 10000, MIN, MAX}) {
            Checks.illegal("no such value", () -> k.fact(0, 0, v));
            Checks.noSuch("no such thing goes first", () -> k.fact(2, 0, v));
            Checks.noSuch("no such fact goes first", () -> k.fact(0, 4, v));
        }
        is("nothing changed", k.fact(0, 0, 0), 0);
    }

    private static void event() {
        KeepForget k = new KeepForget();
        k.thing(0);
        k.thing(0);
        for (int e = 0; e < 4; e++) {
            is("event at first", k.event(0, e, LAST - e), -1);
        }
        for (int e = 0; e < 4; e++) {
            is("what it was", k.event(0, e, -1), LAST - e);
            is("not known", k.event(0, e, 0), -1);
            is("of the other thing", k.event(1, e, 0), -1);
        }
        for (int thing : new int[] {-1, 2, MIN, MAX}) {
            Checks.noSuch("no such thing", () -> k.event(thing, 0, 0));
        }
        for (int event : new int[] {-1, 4, MIN, MAX}) {
            Checks.noSuch("no such event", () -> k.event(0, event, 0));
        }
        for (int day : new int[] {-2, LAST + 1, MIN, MAX}) {
            Checks.illegal("no such day", () -> k.event(0, 0, day));
            Checks.noSuch("no such thing goes first", () -> k.event(2, 0, day));
            Checks.noSuch("no such event goes first", () -> k.event(0, 4, day));
        }
        is("nothing changed", k.event(0, 0, 0), 0);
    }

    // ---- 11, 12, 13

    private static void copy() {
        KeepForget k = with("place k0 f1 s0 s2;");
        is("copy", k.copy(0, 0, 3), true);
        is("there is one", k.copy(0, 0, 3), false);
        is("of another field", k.copy(0, 7, 3), true);
        is("in another store", k.copy(0, 0, 0), true);
        is("misplaced", k.copy(0, 1, 1), false);
        is("misplaced", k.copy(0, 1, 3), false);
        is("placed", k.copy(0, 1, 0), true);
        is("placed", k.copy(0, 1, 2), true);
        is("as many as came", k.count(6), 5);
        for (int n : new int[] {-1, 1, MIN, MAX}) {
            Checks.noSuch("no such thing", () -> k.copy(n, 0, 0) ? 1 : 0);
        }
        for (int n : new int[] {-1, 8, MIN, MAX}) {
            Checks.noSuch("no such field", () -> k.copy(0, n, 0) ? 1 : 0);
        }
        for (int n : new int[] {-1, 4, MIN, MAX}) {
            Checks.noSuch("no such store", () -> k.copy(0, 0, n) ? 1 : 0);
        }
        KeepForget by = new KeepForget();
        by.thing(0);
        Checks.tell(by, "place any all s0;", 5);
        is("by the set in force now", by.copy(0, 0, 1), true);
        by.days(5);
        is("by the set in force now", by.copy(0, 1, 1), false);
    }

    private static void copies() {
        KeepForget k = with("");
        k.thing(1);
        is("nowhere at first", k.copies(0, 0), 0);
        k.copy(0, 5, 0);
        k.copy(0, 5, 3);
        k.copy(1, 5, 1);
        k.copy(1, 6, 2);
        is("as bits", k.copies(0, 5), 9);
        is("as bits", k.copies(1, 5), 2);
        is("as bits", k.copies(1, 6), 4);
        is("as bits", k.copies(0, 6), 0);
        for (int n : new int[] {-1, 2, MIN, MAX}) {
            Checks.noSuch("no such thing", () -> k.copies(n, 0));
        }
        for (int n : new int[] {-1, 8, MIN, MAX}) {
            Checks.noSuch("no such field", () -> k.copies(0, n));
        }
    }

    private static long sweeps(KeepForget k, int store, int every, int first) {
        k.store(store, every, first);
        return 1;
    }

    private static void store() {
        KeepForget k = with("end any all 1 days from e0;");
        k.event(0, 0, 0);
        for (int s = 0; s < 4; s++) {
            k.copy(0, 0, s);
            is("at first each day", k.planned(0, 0, s), 1);
        }
        k.store(0, 400, 399);
        k.store(1, 1, 399);
        k.store(2, 400, 0);
        k.store(3, 7, 1);
        is("first", k.planned(0, 0, 0), 399);
        is("first", k.planned(0, 0, 1), 399);
        is("every", k.planned(0, 0, 2), 400);
        is("first and every", k.planned(0, 0, 3), 1);
        k.event(0, 0, -1);
        k.days(1);
        k.event(0, 0, 0);
        is("first and every", k.planned(0, 0, 3), 8);
        for (int n : new int[] {-1, 4, MIN, MAX}) {
            Checks.noSuch("no such store", () -> sweeps(k, n, 1, 0));
            Checks.noSuch("no such store goes first", () -> sweeps(k, n, 0, 0));
        }
        for (int n : new int[] {0, -1, 401, MIN, MAX}) {
            Checks.illegal("no such every", () -> sweeps(k, 3, n, 0));
        }
        for (int n : new int[] {-1, 400, MIN, MAX}) {
            Checks.illegal("no such first", () -> sweeps(k, 3, 1, n));
        }
        is("nothing changed", k.planned(0, 0, 3), 8);
    }

    // ---- 14, 15, 16

    private static void hold() {
        KeepForget k = with("");
        k.wish(0);
        is("no bits", k.hold(0, 0), -1);
        is("other bits", k.hold(0, 256), -1);
        is("other bits", k.hold(0, 257), -1);
        is("other bits", k.hold(0, -1), -1);
        is("other bits", k.hold(0, MIN), -1);
        is("other bits", k.hold(0, MAX), -1);
        is("none of these", k.count(7), 0);
        is("hold", k.hold(0, 129), 0);
        for (int f = 0; f < 8; f++) {
            is("held", k.why(0, f), f == 0 || f == 7 ? 1 : 0);
        }
        for (int n : new int[] {-1, 1, MIN, MAX}) {
            Checks.noSuch("no such thing", () -> k.hold(n, 1));
            Checks.noSuch("no such thing goes first", () -> k.hold(n, 0));
        }
        for (int i = 1; i < 40; i++) {
            k.lift(i - 1);
            is("hold", k.hold(0, 255), i);
        }
        k.lift(39);
        is("there are 40, lifted or not", k.hold(0, 1), -1);
        Checks.noSuch("no such thing goes first", () -> k.hold(1, 1));
    }

    private static void lift() {
        KeepForget k = with("");
        k.thing(1);
        k.wish(0);
        k.wish(1);
        k.hold(0, 3);
        k.hold(0, 6);
        k.hold(1, 3);
        is("two at once", k.why(0, 1), 1);
        is("lift", k.lift(0), true);
        is("lifted", k.why(0, 0), 0);
        is("the other one has it still", k.why(0, 1), 1);
        is("the other one has it still", k.why(0, 2), 1);
        is("the other thing's", k.why(1, 0), 1);
        is("it was", k.lift(0), false);
        is("open ones", k.count(7), 2);
        is("lift", k.lift(1), true);
        is("lifted", k.why(0, 1), 0);
        KeepForget later = with("");
        later.hold(0, 3);
        later.hold(0, 6);
        is("lift the later one", later.lift(1), true);
        is("the first has it still", later.why(0, 1), 1);
        is("lifted", later.why(0, 2), 3);
        for (int n : new int[] {-1, 3, MIN, MAX}) {
            Checks.noSuch("no such hold", () -> k.lift(n) ? 1 : 0);
        }
    }

    private static void wish() {
        KeepForget k = with("keep any f1 5 days from e0; keep any f2 0 days from e1; end any f3 9 days from e0;");
        k.thing(0);
        k.event(0, 0, 0);
        for (int f = 0; f < 6; f++) {
            k.copy(0, f, f % 4);
        }
        k.hold(0, 16);
        is("no rule ends it yet", k.why(0, 0), 3);
        is("span before", k.span(0, 0, -1, 1), Checks.NEVER);
        is("those due at once", k.wish(0), 1 + 8 + 32);
        is("without a copy, but due", k.why(0, 6), 0);
        is("the end doesn't change", k.span(0, 0, -1, 1), Checks.NEVER);
        is("the other thing is not wished", k.why(1, 0), 3);
        is("again", k.wish(0), 1 + 8 + 32);
        is("without copies", k.wish(1), 0);
        k.days(4);
        is("copies that stay", k.count(6), 3);
        is("from then on", k.wish(0), 0);
        k.days(1);
        is("its time is come", k.copies(0, 1), 0);
        for (int n : new int[] {-1, 2, MIN, MAX}) {
            Checks.noSuch("no such thing", () -> k.wish(n));
        }
    }

    // ---- 17, 18

    private static void span() {
        KeepForget none = new KeepForget();
        none.thing(0);
        spanIs(none, 0, 0, Checks.NEVER, -1, -1, 0);
        Checks.noSuch("no such set", () -> none.span(0, 0, 0, 0));
        KeepForget k = with("keep any f0 10 days from e0; end any f0 2 months from e0; end any f1 1 years from e1;");
        k.event(0, 0, 30);
        k.event(0, 1, 59);
        spanIs(k, 0, 40, 90, 0, 1, 0);
        spanIs(k, 1, 0, 424, -1, 2, 0);
        spanIs(k, 2, 0, Checks.NEVER, -1, -1, 0);
        Checks.tell(k, "end any all 7 days from e0;", 1000);
        is("by a set told", k.span(0, 0, 1, 1), 37);
        is("by a set told", k.span(0, 0, 0, 1), 90);
        is("by the one in force", k.span(0, 0, -1, 1), 90);
        for (int n : new int[] {-1, 1, MIN, MAX}) {
            Checks.noSuch("no such thing", () -> k.span(n, 0, 0, 0));
        }
        for (int n : new int[] {-1, 8, MIN, MAX}) {
            Checks.noSuch("no such field", () -> k.span(0, n, 0, 0));
        }
        for (int n : new int[] {-2, 2, MIN, MAX}) {
            Checks.noSuch("no such set", () -> k.span(0, 0, n, 0));
        }
        for (int n : new int[] {-1, 5, MIN, MAX}) {
            Checks.noSuch("no such part", () -> k.span(0, 0, 0, n));
        }
    }

    private static void spanOfManyRules() {
        KeepForget k = with("end any f0 10 days from e0; keep any f0 20 days from e0 rank 1;"
            + "end any f0 30 days from e0 rank 1; keep any f0 31 days from e0; end any f0 30 days from e0;"
            + "keep any f0 20 days from e0 rank 2; keep any f0 30 days from e0; keep any f0 30 days from e0 rank 0;");
        k.event(0, 0, 100);
        // taken: 5 (from 120), 1 (like), 2 (to 130), 0 lost, 3 lost, 4 (like), 6 (from 130), 7 (like)
        spanIs(k, 0, 130, 130, 6, 2, 2);
        is("lost first", k.lost(0, 0, -1, 0), 0);
        is("lost next", k.lost(0, 0, -1, 1), 3);
        KeepForget ranks = with("end any all 5 days from e0 rank 9; end any all 3 days from e0 rank 10;"
            + "end any all 2 days from e0 rank 9999; keep any all 4 days from e0 rank 9998;");
        ranks.event(0, 0, 0);
        spanIs(ranks, 0, 0, 2, -1, 2, 1);
        is("the rank below lost", ranks.lost(0, 0, 0, 0), 3);
    }

    private static void spanTests() {
        KeepForget k = new KeepForget();
        for (int kind = 0; kind < 4; kind++) {
            k.thing(kind);
            k.event(kind, 0, 0);
        }
        Checks.tell(k, "end k1 f2 1 days from e0; end k2 all 2 days from e0; end any f7 3 days from e0;", 0);
        for (int kind = 0; kind < 4; kind++) {
            is("f7 of kind " + kind, k.span(kind, 7, 0, 3), kind == 2 ? 1 : 2);
            is("f2 of kind " + kind, k.span(kind, 2, 0, 3), kind == 2 ? 1 : kind == 1 ? 0 : -1);
            is("f3 of kind " + kind, k.span(kind, 3, 0, 3), kind == 2 ? 1 : -1);
        }
        KeepForget t = with("end any f0 1 days from e0 if a0=5; end any f1 1 days from e0 if a1<5;"
            + "end any f2 1 days from e0 if a0=5 and a1<5 and a2=0 and a3=9999; end any f3 1 days from e0 if a0<0;");
        t.event(0, 0, 0);
        for (int[] row : new int[][] {{4, 0}, {5, 1}, {6, 0}}) {
            t.fact(0, 0, row[0]);
            is("a0=5 of " + row[0], t.span(0, 0, 0, 1) != Checks.NEVER, row[1] == 1);
        }
        for (int[] row : new int[][] {{5, 0}, {6, 0}, {4, 1}}) {
            t.fact(0, 1, row[0]);
            is("a1<5 of " + row[0], t.span(0, 1, 0, 1) != Checks.NEVER, row[1] == 1);
        }
        t.fact(0, 0, 5);
        is("three of four", t.span(0, 2, 0, 1), Checks.NEVER);
        t.fact(0, 3, 9999);
        is("all four", t.span(0, 2, 0, 1), 1);
        is("below 0", t.span(0, 3, 0, 1), Checks.NEVER);
    }

    private static void spanEdges() {
        KeepForget k = with("keep any f0 0 days from e0; end any f1 0 days from e0; keep any f2 1 days from e1;"
            + "end any f2 1 days from e1; end any f2 5 days from e0; keep any f3 1 days from e2; end any f3 1 days from e2;"
            + "end any f4 2 days from e2; keep any f5 9999 years from e0; keep any f5 1 days from e1;"
            + "keep any f6 9999 months from e0; end any f6 9999 months from e0;");
        k.event(0, 0, 0);
        k.event(0, 2, LAST - 1);
        // a rule that changes nothing told nothing
        spanIs(k, 0, 0, Checks.NEVER, -1, -1, 0);
        spanIs(k, 1, 0, 0, -1, 1, 0);
        // not known: kept for ever, and an end without its event bids nothing; the end with one is lost
        spanIs(k, 2, Checks.NEVER, Checks.NEVER, 2, -1, 1);
        is("lost against never", k.lost(0, 2, 0, 0), 4);
        spanIs(k, 3, LAST, LAST, 5, 6, 0);
        // above the last day: never, which no rule told
        spanIs(k, 4, 0, Checks.NEVER, -1, -1, 0);
        spanIs(k, 5, Checks.NEVER, Checks.NEVER, 8, -1, 0);
        spanIs(k, 6, Checks.NEVER, Checks.NEVER, 10, -1, 0);
        k.event(0, 0, -1);
        spanIs(k, 1, 0, Checks.NEVER, -1, -1, 0);
        KeepForget last = with("end any f0 1 months from e0; keep any f1 1 months from e0; end any f2 0 years from e0;");
        last.event(0, 0, last.day(2547, 7, 1));
        spanIs(last, 0, 0, LAST, -1, 0, 0);
        spanIs(last, 1, LAST, Checks.NEVER, 1, -1, 0);
        spanIs(last, 2, 0, last.day(2547, 7, 1), -1, 2, 0);
    }

    private static void setInForce() {
        KeepForget k = new KeepForget();
        Checks.tell(k, "place any all s0;", 10);
        is("none yet", k.count(3), -1);
        is("no rules", k.count(9), 0);
        k.days(9);
        is("none yet", k.count(3), -1);
        k.days(1);
        is("from its day on", k.count(3), 0);
        Checks.tell(k, "", 5);
        is("the latest day", k.count(3), 0);
        Checks.tell(k, "", 10);
        is("of like ones the later told", k.count(3), 2);
        Checks.tell(k, "", 12);
        Checks.tell(k, "", 11);
        is("not after it", k.count(3), 2);
        k.days(1);
        is("the day came", k.count(3), 4);
        k.days(1);
        is("the day came", k.count(3), 3);
    }

    private static void lost() {
        KeepForget k = with("end any all 5 days from e0 rank 9; keep any all 9 days from e0 rank 1;"
            + "keep any all 8 days from e0 rank 5; keep any f1 7 days from e0 rank 1;");
        k.event(0, 0, 0);
        is("two are lost", k.span(0, 0, -1, 4), 2);
        is("as they were taken", k.lost(0, 0, -1, 0), 2);
        is("as they were taken", k.lost(0, 0, 0, 1), 1);
        is("of like ranks by number", k.lost(0, 1, 0, 1), 1);
        is("of like ranks by number", k.lost(0, 1, 0, 2), 3);
        for (int n : new int[] {-1, 2, MIN, MAX}) {
            Checks.noSuch("no such lost one", () -> k.lost(0, 0, 0, n));
        }
        for (int n : new int[] {-1, 1, MIN, MAX}) {
            Checks.noSuch("no such thing", () -> k.lost(n, 0, 0, 0));
        }
        for (int n : new int[] {-1, 8, MIN, MAX}) {
            Checks.noSuch("no such field", () -> k.lost(0, n, 0, 0));
        }
        for (int n : new int[] {-2, 1, MIN, MAX}) {
            Checks.noSuch("no such set", () -> k.lost(0, 0, n, 0));
        }
        KeepForget many = with("end any all 0 days from e0 rank 1;" + "keep any all 1 days from e0;".repeat(23));
        many.event(0, 0, 0);
        is("all the others", many.span(0, 0, -1, 4), 23);
        is("the last of them", many.lost(0, 0, -1, 22), 23);
    }

    // ---- 19, 20, 21, 22

    private static void why() {
        KeepForget k = with("keep any f0 3 days from e0; end any f1 3 days from e0; keep any f2 1 days from e1;");
        k.event(0, 0, 0);
        is("not come", k.why(0, 0), 2);
        is("due", k.why(0, 1), 0);
        is("never comes", k.why(0, 2), 2);
        is("no rule ends it", k.why(0, 3), 3);
        k.hold(0, 15);
        for (int f = 0; f < 4; f++) {
            is("held first", k.why(0, f), 1);
        }
        k.lift(0);
        k.days(2);
        is("not come", k.why(0, 0), 2);
        k.days(1);
        is("come, but no rule ends it", k.why(0, 0), 3);
        k.wish(0);
        is("wished", k.why(0, 0), 0);
        is("wished", k.why(0, 3), 0);
        is("wished, not come", k.why(0, 2), 2);
        k.days(10);
        is("after its end", k.why(0, 1), 0);
        for (int n : new int[] {-1, 1, MIN, MAX}) {
            Checks.noSuch("no such thing", () -> k.why(n, 0));
        }
        for (int n : new int[] {-1, 8, MIN, MAX}) {
            Checks.noSuch("no such field", () -> k.why(0, n));
        }
        KeepForget none = new KeepForget();
        none.thing(3);
        is("without a set", none.why(0, 0), 3);
    }

    private static void places() {
        KeepForget k = with("place any f0 s0 s1 s2; place k0 f0 s1 s3; place k1 f0 s0; place any f1 s0; place any f1 s1;"
            + "place any f2 s2 if a0=1;");
        is("what all have", k.places(0, 0), 2);
        is("nowhere", k.places(0, 1), 0);
        is("not for it", k.places(0, 2), 15);
        k.fact(0, 0, 1);
        is("for it", k.places(0, 2), 4);
        is("all four", k.places(0, 3), 15);
        for (int n : new int[] {-1, 1, MIN, MAX}) {
            Checks.noSuch("no such thing", () -> k.places(n, 0));
        }
        for (int n : new int[] {-1, 8, MIN, MAX}) {
            Checks.noSuch("no such field", () -> k.places(0, n));
        }
        KeepForget none = new KeepForget();
        none.thing(3);
        is("without a set", none.places(0, 0), 15);
        Checks.tell(none, "place k3 all s3;", 1);
        is("not in force yet", none.places(0, 0), 15);
        none.days(1);
        is("in force", none.places(0, 0), 8);
    }

    private static void misplaced() {
        KeepForget k = with("place any all s0 if a0=1;");
        k.thing(1);
        for (int s = 0; s < 4; s++) {
            k.copy(0, 0, s);
            k.copy(0, 7, s);
            k.copy(1, 3, s);
        }
        is("all in place", k.misplaced(), 0);
        k.fact(0, 0, 1);
        is("copies, not fields", k.misplaced(), 6);
        k.fact(1, 0, 1);
        is("of all things", k.misplaced(), 9);
        Checks.tell(k, "place any all s3; place any f0 s2;", 1);
        k.days(1);
        is("by the set in force now", k.misplaced(), 4 + 3 + 3);
        is("they stay", k.count(6), 12);
        for (int s = 0; s < 4; s++) {
            KeepForget one = with("");
            one.copy(0, 0, s);
            Checks.tell(one, s == 2 ? "place any all s1;" : "place any all s2;", 0);
            is("one alone", one.misplaced(), 1);
        }
    }

    private static void planned() {
        KeepForget k = with("keep any f0 10 days from e0; end any f0 20 days from e0; keep any f1 1 days from e1;"
            + "end any f3 3 days from e0;");
        k.event(0, 0, 0);
        for (int f = 0; f < 4; f++) {
            k.copy(0, f, 0);
        }
        is("when it may", k.planned(0, 0, 0), 10);
        is("no such copy", k.planned(0, 0, 1), -1);
        is("not known: never", k.planned(0, 1, 0), Checks.NEVER);
        is("no rule ends it: never", k.planned(0, 2, 0), Checks.NEVER);
        is("after now", k.planned(0, 3, 0), 1);
        k.store(0, 6, 5);
        is("as its store sweeps", k.planned(0, 0, 0), 11);
        k.store(0, 5, 0);
        is("as its store sweeps", k.planned(0, 0, 0), 10);
        k.store(0, 400, 399);
        is("even if it is late", k.planned(0, 0, 0), 399);
        k.hold(0, 1);
        is("held: never", k.planned(0, 0, 0), Checks.NEVER);
        k.lift(0);
        k.wish(0);
        is("wished", k.planned(0, 2, 0), 399);
        is("wished, not known", k.planned(0, 1, 0), Checks.NEVER);
        Checks.tell(k, "keep any all 100 days from e0;", 2);
        is("by the set of now", k.planned(0, 0, 0), 399);
        k.days(2);
        k.store(0, 1, 0);
        is("by the set of now", k.planned(0, 0, 0), 100);
        k.event(0, 0, LAST - 100);
        is("the last day", k.planned(0, 0, 0), LAST);
        k.store(0, 3, 0);
        is("no sweep up to the last day", k.planned(0, 0, 0), Checks.NEVER);
        for (int n : new int[] {-1, 1, MIN, MAX}) {
            Checks.noSuch("no such thing", () -> k.planned(n, 0, 0));
        }
        for (int n : new int[] {-1, 8, MIN, MAX}) {
            Checks.noSuch("no such field", () -> k.planned(0, n, 0));
        }
        for (int n : new int[] {-1, 4, MIN, MAX}) {
            Checks.noSuch("no such store", () -> k.planned(0, 0, n));
        }
    }

    // ---- 23, 24

    private static void differ() {
        KeepForget k = with("end k0 f0 5 days from e0; keep k0 f1 5 days from e0; end k0 f2 5 days from e0;");
        k.thing(1);
        k.event(0, 0, 0);
        Checks.tell(k, "end k0 f0 5 days from e0 rank 7; keep k0 f1 6 days from e0; end k0 f2 6 days from e0;", 100);
        is("from or to", k.differ(0, 1), 2);
        is("the other way round", k.differ(1, 0), 2);
        is("the same", k.differ(1, 1), 0);
        Checks.tell(k, "", 100);
        is("against none", k.differ(0, 2), 3);
        Checks.tell(k, "keep any all 1 days from e1;", 100);
        is("of all things", k.differ(3, 2), 16);
        Checks.tell(k, "end k0 f0 5 days from e0; keep k0 f0 9 days from e0;", 0);
        Checks.tell(k, "end k0 f0 5 days from e0; place any all s0;", 0);
        is("lost ones don't count", k.differ(4, 5), 0);
        for (int n : new int[] {-1, 6, MIN, MAX}) {
            Checks.noSuch("no such set", () -> k.differ(n, 0));
            Checks.noSuch("no such set", () -> k.differ(0, n));
        }
    }

    private static void bites() {
        KeepForget k = with("end k0 f0 5 days from e0; place k1 all s0; keep any f1 5 days from e0 if a0=1;"
            + "keep any all 1 days from e0;");
        k.thing(1);
        for (int r = 0; r < 4; r++) {
            is("no copies", k.bites(0, r), false);
        }
        k.copy(0, 1, 3);
        is("another field", k.bites(0, 0), false);
        is("another kind", k.bites(0, 1), false);
        is("a test that doesn't hold", k.bites(0, 2), false);
        is("every one", k.bites(0, 3), true);
        k.fact(0, 0, 1);
        is("a test that holds, an event not known", k.bites(0, 2), true);
        k.copy(1, 6, 0);
        is("place rules, too", k.bites(0, 1), true);
        k.copy(0, 0, 1);
        is("its field", k.bites(0, 0), true);
        Checks.tell(k, "end k1 f6 5 days from e0;", 1000);
        is("a set not in force", k.bites(1, 0), true);
        for (int n : new int[] {-1, 2, MIN, MAX}) {
            Checks.noSuch("no such set", () -> k.bites(n, 0) ? 1 : 0);
        }
        for (int n : new int[] {-1, 4, MIN, MAX}) {
            Checks.noSuch("no such rule", () -> k.bites(0, n) ? 1 : 0);
        }
    }

    // ---- 25, 26, 27

    private static void days() {
        KeepForget k = new KeepForget();
        is("no day", k.days(0), 0);
        is("a day", k.days(1), 1);
        for (int n : new int[] {-1, 1001, MIN, MAX}) {
            Checks.illegal("no such number", () -> k.days(n));
        }
        is("nothing changed", k.count(0), 1);
        for (int i = 0; i < 199; i++) {
            is("days", k.days(1000), 1001 + i * 1000);
        }
        Checks.illegal("above the last", () -> k.days(1000));
        is("nothing changed", k.count(0), 199001);
        is("the last", k.days(999), LAST);
        is("no day", k.days(0), LAST);
        Checks.illegal("above the last", () -> k.days(1));
        k.thing(0);
        k.wish(0);
        k.copy(0, 0, 0);
        is("nothing is planned after the last day", k.planned(0, 0, 0), Checks.NEVER);
        is("no day sweeps nothing", k.days(0), LAST);
        is("no day sweeps nothing", k.copies(0, 0), 1);
    }

    private static void daysInOrder() {
        KeepForget k = with("end any f1 5 days from e0; end any f0 9 days from e0; keep k1 all 3 days from e0;");
        k.thing(1);
        k.event(0, 0, 0);
        k.event(1, 0, 0);
        k.copy(1, 1, 0);
        k.copy(0, 1, 2);
        k.copy(0, 0, 2);
        k.copy(0, 1, 1);
        k.copy(0, 2, 1);
        k.store(1, 2, 0);
        k.days(4);
        is("four ended", k.count(4), 4);
        line(k, 0, 0, 0, 2, 1, 1);
        line(k, 1, 0, 1, 2, 1, 0);
        line(k, 2, 0, 1, 1, 2, 0);
        line(k, 3, 1, 1, 0, 3, 0);
        is("none late", k.count(5), 0);
        is("one stays", k.count(6), 1);
        k.wish(0);
        k.days(1);
        is("its store doesn't sweep", k.count(6), 1);
        k.days(1);
        line(k, 4, 0, 2, 1, 6, -1);
        // on one day: stores first, then things, then fields
        KeepForget all = with("end any all 5 days from e0;");
        all.thing(0);
        for (int t = 0; t < 2; t++) {
            all.event(t, 0, 0);
            for (int s = 3; s >= 2; s--) {
                all.copy(t, 7, s);
                all.copy(t, 3, s);
            }
        }
        all.days(1);
        int i = 0;
        for (int s = 2; s < 4; s++) {
            for (int t = 0; t < 2; t++) {
                line(all, i++, t, 3, s, 1, 0);
                line(all, i++, t, 7, s, 1, 0);
            }
        }
        is("a copy may come again", all.copy(0, 3, 2), true);
        all.days(1);
        line(all, 8, 0, 3, 2, 2, 0);
    }

    private static void daysAndSets() {
        KeepForget k = with("");
        k.event(0, 0, 0);
        k.copy(0, 0, 0);
        k.copy(0, 1, 0);
        Checks.tell(k, "end any f0 2 days from e0; end any f1 99 days from e0 if a0=1;", 5);
        Checks.tell(k, "end any f1 20 days from e0; keep any f1 10 days from e0; end any f1 10 days from e0;", 7);
        k.days(100);
        is("two ended", k.count(4), 2);
        line(k, 0, 0, 0, 0, 5, 0);
        line(k, 1, 0, 1, 0, 10, 2);
        is("late by the new set", k.count(5), 1);
        // a set that comes while the days go by, and the only one there is
        KeepForget only = new KeepForget();
        only.thing(0);
        only.event(0, 0, 0);
        only.copy(0, 0, 3);
        Checks.tell(only, "keep any all 8 days from e0; end any all 9 days from e0;", 5);
        only.days(20);
        line(only, 0, 0, 0, 3, 8, 1);
        is("in time", only.count(5), 0);
        // each field in each store on its day, whatever else there is
        for (int i = 0; i < 32; i++) {
            KeepForget one = with("keep any all 8 days from e0; end any all 9 days from e0;");
            one.event(0, 0, 0);
            one.copy(0, i / 4, i % 4);
            one.days(20);
            line(one, 0, 0, i / 4, i % 4, 8, 1);
        }
        // a set that comes in force for a while only
        KeepForget w = with("");
        w.event(0, 0, 0);
        w.copy(0, 0, 0);
        w.store(0, 10, 0);
        Checks.tell(w, "end any all 1 days from e0;", 12);
        Checks.tell(w, "", 19);
        w.days(50);
        is("it never swept then", w.count(6), 1);
        Checks.tell(w, "end any all 1 days from e0;", 60);
        w.days(10);
        line(w, 0, 0, 0, 0, 60, 0);
    }

    private static void late() {
        KeepForget k = with("end any f0 3 days from e0; end any f1 4 days from e0;");
        k.event(0, 0, 0);
        k.copy(0, 0, 0);
        k.copy(0, 1, 0);
        k.copy(0, 2, 0);
        k.wish(0);
        k.store(0, 4, 4);
        k.days(4);
        is("all ended", k.count(4), 3);
        is("after its end, not on it, not without one", k.count(5), 1);
        is("the rule, though wished", k.entry(0, 4), 0);
        is("wished alone", k.entry(2, 4), -1);
    }

    private static void entry() {
        KeepForget k = with("");
        k.wish(0);
        k.copy(0, 3, 2);
        k.days(1);
        line(k, 0, 0, 3, 2, 1, -1);
        for (int n : new int[] {-1, 1, MIN, MAX}) {
            Checks.noSuch("no such line", () -> k.entry(n, 0));
        }
        for (int n : new int[] {-1, 5, MIN, MAX}) {
            Checks.noSuch("no such part", () -> k.entry(0, n));
        }
    }

    private static void logIsFull() {
        KeepForget k = with("end any f7 0 days from e0;");
        k.event(0, 0, 0);
        k.wish(0);
        int lines = 0;
        while (lines < 404) {
            for (int f = 4; f < 8 && lines < 404; f++) {
                for (int s = 0; s < 4; s++) {
                    k.copy(0, f, s);
                    lines++;
                }
            }
            k.days(1);
        }
        is("all are counted", k.count(4), 404);
        is("the late ones, too", k.count(5), 25 * 4);
        line(k, 399, 0, 7, 3, 25, 0);
        Checks.noSuch("not kept", () -> k.entry(400, 0));
        Checks.noSuch("not kept", () -> k.entry(403, 0));
    }

    private static void count() {
        KeepForget k = with("end any f0 0 days from e0; place any all s0 s1;");
        k.thing(1);
        k.event(0, 0, 0);
        k.hold(1, 1);
        k.hold(1, 1);
        k.hold(0, 2);
        k.lift(1);
        k.copy(0, 0, 0);
        k.copy(0, 1, 0);
        k.copy(0, 1, 1);
        k.copy(1, 0, 0);
        k.days(7);
        Checks.tell(k, "", 9);
        Checks.lay(k, " ");
        int[] want = {7, 2, 2, 0, 1, 1, 3, 2, 20, 2};
        for (int i = 0; i < want.length; i++) {
            is("count(" + i + ")", k.count(i), want[i]);
        }
        for (int n : new int[] {-1, 10, MIN, MAX}) {
            Checks.noSuch("no such count", () -> k.count(n));
        }
    }
}
