import java.util.Arrays;
import java.util.List;

/** Each sentence of the document's "Terms" about the rules' texts, their tokens and faults, on both sides. */
public final class TextsTest extends Checks {
    /** What may be tried as the next token behind the beginning of a rule. */
    private static final List<String> TOKENS = List.of("keep", "end", "place", "any", "all", "k0", "k1", "k2", "k3", "k4",
        "f0", "f1", "f2", "f3", "f4", "f5", "f6", "f7", "f8", "days", "months", "years", "from", "e0", "e1", "e2", "e3", "e4",
        "s0", "s1", "s2", "s3", "s4", "if", "and", "rank", "a0", "a1", "a2", "a3", "a4", ";", "=", "<", "0", "7", "9999",
        "x", "k", "f", "e", "s", "a", "keeps", "kee", "day", "month", "year", "ranks", "k00", "a01", "Keep", "#", ">", ":", "-");
    private static final String NUMBERS = "0 7 9999";
    private static final String STARTS = "keep end place";
    private static final String TIME = "keep any all 1 days from e0";
    private static final String PLACE = "place any all s0";

    private TextsTest() {
    }

    public static void main(String[] args) {
        tokens();
        grammar();
        faults();
        end();
    }

    private static void good(String text, int rules) {
        KeepForget k = new KeepForget();
        is("rules of " + text, tell(k, text, 0), 0);
        is("no fault in " + text, k.fault(), -1);
        is("rules in " + text, k.count(9), rules);
    }

    private static void bad(int fault, String text, int place) {
        KeepForget k = new KeepForget();
        is("rules of " + text, tell(k, text, 0), -1 - fault);
        is("the fault's place in " + text, k.fault(), place);
        is("no set by " + text, k.count(2), 0);
    }

    /** A text with its fault, the fault's place marked by ^ in it. */
    private static void bad(int fault, String marked) {
        bad(fault, marked.replace("^", ""), marked.indexOf('^'));
    }

    // ---- tokens

    private static void tokens() {
        sentence("texts of at most 1000 bytes", TextsTest::thousandBytes);
        sentence("words (a letter a .. z, then letters and digits", TextsTest::words);
        sentence("the longest row", TextsTest::longestRow);
        sentence("NUMBERS (1 to 4 digits)", TextsTest::numbers);
        sentence("signs ; = <", TextsTest::signs);
        sentence("blanks (32, 10) between them count for nothing", TextsTest::blanks);
    }

    private static void thousandBytes() {
        String start = PLACE + ";".repeat(1) + PLACE;
        String whole = start + " ".repeat(999 - start.length());
        good(whole + ";", 2);
        bad(1, whole + " ", 1000);
        bad(1, whole, 999);
        bad(1, whole + "#", 999);
        KeepForget k = new KeepForget();
        lay(k, whole + ";");
        is("the tape is full", k.count(8), 1000);
        is("there can't be more", k.feed(0, 0, 0, 0, 0), -1);
        illegal("there can't be more", () -> k.rules(1001, 0));
        is("all of it", k.rules(1000, 0), 0);
    }

    private static void words() {
        // a letter or digit behind a word is part of it, any other sign is not
        for (String part : new String[] {"a", "z", "m", "0", "9", "5", "zz", "09"}) {
            bad(1, "^keep" + part);
            bad(1, "keep ^any" + part);
        }
        for (int sign : new int[] {'`', '{', '/', ':', 'A', 'Z', '@', '[', '_', 0, 127, 128, 225, 250, 255}) {
            bad(1, "keep^" + (char) sign);
            bad(1, "^" + (char) sign + "keep");
        }
        good(TIME + ";", 1);
        bad(1, "^Keep any all 1 days from e0;");
        bad(1, "keep ^ANY all 1 days from e0;");
        // a digit can't begin a word
        bad(1, "keep ^0any all 1 days from e0;");
    }

    private static void longestRow() {
        bad(1, "^keepany all 1 days from e0;");
        bad(1, "keep ^anyall 1 days from e0;");
        bad(1, "keep ^k0f0 1 days from e0;");
        bad(1, "keep any ^all1 days from e0;");
        bad(1, "keep any all 1 days from ^e0if a0=1;");
        bad(1, "place any all s0 ^s1s2;");
        bad(1, "place any all ^s0s0;");
        bad(1, "place any all s0 ^rank1;");
        bad(1, "place any all s0 if ^a01=1;");
        bad(1, "place any all s0 if a0=1 ^anda1=1;");
        bad(2, "keep any all ^12345 days from e0;");
        good("keep any all 1days from e0;", 1);
        good("place any all s0 if a0=1and a1<2rank 3;", 1);
        good(TIME + ";" + TIME + ";", 2);
    }

    private static void numbers() {
        String[] right = {"0", "9", "10", "99", "100", "999", "1000", "9999", "0000", "0009", "09"};
        for (String n : right) {
            KeepForget k = with("end any f0 " + n + " days from e0; place any f0 s0 if a0=" + n + "; place any f1 s1 if a0<" + n
                + "; end any f1 1 days from e0 rank " + n + "; keep any f1 2 days from e0 rank "
                + Math.max(0, Integer.parseInt(n) - 1) + ";");
            int value = Integer.parseInt(n);
            k.event(0, 0, 0);
            is("days of " + n, k.span(0, 0, 0, 1), value);
            k.fact(0, 0, value);
            is("a0=" + n, k.places(0, 0), 1);
            is("not a0<" + n, k.places(0, 1), 15);
            k.fact(0, 0, value == 0 ? 1 : value - 1);
            is("not a0=" + n, k.places(0, 0), 15);
            is("a0<" + n, k.places(0, 1), value == 0 ? 15 : 2);
            is("the greater rank goes first", k.span(0, 1, 0, 1), 1);
        }
        for (String n : new String[] {"10000", "00000", "99999", "00001", "123456", "65536", "4294967296", "4294967297",
            "18446744073709551617", "1" + "0".repeat(900)}) {
            bad(2, "end any f0 ^" + n + " days from e0;");
            bad(2, "place any f0 s0 if a0=^" + n + ";");
            bad(2, "place any f0 s0 rank ^" + n + ";");
        }
        bad(1, "end any f0 ^days from e0;");
        bad(1, "end any f0 ^-1 days from e0;");
        bad(1, "end any f0 ^/1 days from e0;");
        bad(1, "end any f0 1^: days from e0;");
        bad(1, "end any f0 1 ^2 days from e0;");
    }

    private static void signs() {
        good("place any all s0 if a0=1 and a1<2;", 1);
        for (char sign = 33; sign < 127; sign++) {
            boolean isDigit = sign >= '0' && sign <= '9';
            boolean isLetter = sign >= 'a' && sign <= 'z';
            if (isDigit || isLetter) {
                continue;
            }
            String end = PLACE + sign;
            if (sign == ';') {
                good(end, 1);
            } else {
                bad(1, end, PLACE.length());
            }
            String test = PLACE + " if a0";
            if (sign == '=' || sign == '<') {
                good(test + sign + "1;", 1);
            } else {
                bad(1, test + sign + "1;", test.length());
            }
        }
    }

    private static void blanks() {
        good("\n " + PLACE.replace(" ", " \n \n\n  ") + "\n;\n ", 1);
        good("place any all s0 if a0 = 1 and a1 < 2 rank 3 ;", 1);
        good("place any all s0 if a0=1and a1<2rank 3;place any all s0;", 2);
        for (int sign : new int[] {32, 10}) {
            good("place" + (char) sign + "any all s0;", 1);
            good((char) sign + "place any all s0;" + (char) sign, 1);
        }
        for (int sign : new int[] {0, 1, 8, 9, 11, 12, 13, 31, 33, 127, 128, 133, 138, 160, 255}) {
            bad(1, "place^" + (char) sign + "any all s0;");
            bad(1, "^" + (char) sign + "place any all s0;");
            bad(1, "place any all s0;^" + (char) sign);
        }
    }

    // ---- the grammar

    private static void grammar() {
        sentence("SET: RULE*.", TextsTest::anyNumberOfRules);
        sentence("('keep' | 'end') WHAT NUMBER ('days' | 'months' | 'years') 'from' EVENT TAIL", TextsTest::timeRules);
        sentence("'place' WHAT STORE STORE* TAIL", TextsTest::placeRules);
        sentence("KIND: 'any' | 'k0' .. 'k3'.", TextsTest::kinds);
        sentence("FIELD: 'all' | 'f0' .. 'f7'.", TextsTest::fields);
        sentence("EVENT: 'e0' .. 'e3'.", TextsTest::events);
        sentence("STORE: 's0' .. 's3'.", TextsTest::stores);
        sentence("TAIL: ['if' TEST ('and' TEST)*] ['rank' NUMBER] ';'.", TextsTest::tails);
        sentence("TEST: FACT ('=' | '<') NUMBER.", TextsTest::tests);
        sentence("FACT: 'a0' .. 'a3'.", TextsTest::facts);
    }

    /**
     * Behind a beginning, just these tokens can stand: each other one is fault 1, at its own place, but
     * for those with an exclamation mark, which are fault 3.
     */
    private static void next(String start, String allowed) {
        List<String> right = Arrays.asList(allowed.split(" "));
        for (String token : TOKENS) {
            String text = start + " " + token;
            KeepForget k = new KeepForget();
            int got = tell(k, text, 0);
            if (right.contains("!" + token)) {
                is("rules of " + text, got, -4);
                is("the fault's place in " + text, k.fault(), start.length() + 1);
            } else if (!right.contains(token)) {
                is("rules of " + text, got, -2);
                is("the fault's place in " + text, k.fault(), start.length() + 1);
            } else if (token.equals(";")) {
                is("rules of " + text, got, 0);
                is("no fault in " + text, k.fault(), -1);
            } else {
                is("rules of " + text, got, -2);
                is("what is missing in " + text, k.fault(), text.length());
            }
        }
    }

    private static void anyNumberOfRules() {
        good("", 0);
        good(" ", 0);
        good("\n", 0);
        for (int rules = 1; rules <= 24; rules++) {
            good((PLACE + ";").repeat(rules), rules);
        }
        next("", STARTS);
        next(TIME + ";", STARTS);
        next(PLACE + ";", STARTS);
    }

    private static void timeRules() {
        for (String verb : new String[] {"keep", "end"}) {
            next(verb, "any k0 k1 k2 k3");
            next(verb + " any", "all f0 f1 f2 f3 f4 f5 f6 f7");
            next(verb + " any all", NUMBERS);
            next(verb + " any all 1", "days months years");
            for (String unit : new String[] {"days", "months", "years"}) {
                next(verb + " any all 1 " + unit, "from");
            }
            next(verb + " any all 1 days from", "e0 e1 e2 e3");
            next(verb + " any all 1 days from e0", "if rank ;");
            good(verb + " any all 1 days from e0;", 1);
            good(verb + " k3 f7 9999 years from e3 if a0=1 rank 2;", 1);
        }
        KeepForget k = with("end any f0 1 days from e0; end any f1 1 months from e0; end any f2 1 years from e0;"
            + "keep any f3 1 days from e0; keep any f4 1 months from e0; keep any f5 1 years from e0;");
        k.event(0, 0, 0);
        int[] long1 = {1, 31, 366};
        for (int f = 0; f < 3; f++) {
            is("the end of field " + f, k.span(0, f, 0, 1), long1[f]);
            is("the beginning of field " + (f + 3), k.span(0, f + 3, 0, 0), long1[f]);
        }
    }

    private static void placeRules() {
        next("place", "any k0 k1 k2 k3");
        next("place any", "all f0 f1 f2 f3 f4 f5 f6 f7");
        next("place any all", "s0 s1 s2 s3");
        bad(1, "place any all^");
        bad(1, "place any all ^;");
        bad(1, "place any all ^if a0=1;");
        String stores = "";
        for (int s = 0; s < 4; s++) {
            stores += " s" + s;
            KeepForget k = with("place any all" + stores + ";");
            is("as many stores as stand there", k.places(0, 0), (2 << s) - 1);
        }
        next("place any all s1", "s0 !s1 s2 s3 if rank ;");
        next("place any all" + stores, "!s0 !s1 !s2 !s3 if rank ;");
    }

    private static void kinds() {
        next("end", "any k0 k1 k2 k3");
        for (int kind = 0; kind < 4; kind++) {
            for (int named = 0; named < 4; named++) {
                KeepForget k = new KeepForget();
                k.thing(kind);
                tell(k, "place k" + named + " f0 s0; place any f1 s1;", 0);
                is("k" + named + " for kind " + kind, k.places(0, 0), named == kind ? 1 : 15);
                is("any for kind " + kind, k.places(0, 1), 2);
            }
        }
        for (int n = 4; n <= 9; n++) {
            bad(1, "place ^k" + n + " all s0;");
        }
    }

    private static void fields() {
        next("end k0", "all f0 f1 f2 f3 f4 f5 f6 f7");
        for (int named = 0; named < 8; named++) {
            KeepForget k = with("place any f" + named + " s0; place any all s0 s1;");
            for (int f = 0; f < 8; f++) {
                is("f" + named + " for field " + f, k.places(0, f), f == named ? 1 : 3);
            }
        }
        bad(1, "place any ^f8 s0;");
        bad(1, "place any ^f9 s0;");
    }

    private static void events() {
        next("end any all 1 months from", "e0 e1 e2 e3");
        for (int named = 0; named < 4; named++) {
            KeepForget k = with("end any all 1 days from e" + named + ";");
            for (int e = 0; e < 4; e++) {
                k.event(0, e, 10 * e);
            }
            is("from e" + named, k.span(0, 0, 0, 1), 10 * named + 1);
        }
        for (int n = 4; n <= 9; n++) {
            bad(1, "end any all 1 days from ^e" + n + ";");
        }
    }

    private static void stores() {
        next("place k1 f1", "s0 s1 s2 s3");
        for (int named = 0; named < 4; named++) {
            is("s" + named, with("place any all s" + named + ";").places(0, 0), 1 << named);
        }
        for (int n = 4; n <= 9; n++) {
            bad(1, "place any all ^s" + n + ";");
            bad(1, "place any all s0 ^s" + n + ";");
        }
    }

    private static void tails() {
        next(TIME, "if rank ;");
        next(PLACE, "!s0 s1 s2 s3 if rank ;");
        for (String start : new String[] {TIME, PLACE}) {
            next(start + " if", "a0 a1 a2 a3");
            next(start + " if a0=1", "and rank ;");
            next(start + " if a0=1 and", "a0 a1 a2 a3");
            next(start + " if a0=1 and a1=1", "and rank ;");
            next(start + " if a0=1 and a1=1 and a1=1 and a1=1", "and rank ;");
            next(start + " rank", NUMBERS);
            next(start + " rank 1", ";");
            next(start + " if a0=1 rank", NUMBERS);
            next(start + " if a0=1 rank 1", ";");
            good(start + ";", 1);
            good(start + " if a0=1;", 1);
            good(start + " rank 1;", 1);
            good(start + " if a0=1 and a0=1 rank 1;", 1);
            bad(1, start + " rank 1 ^if a0=1;");
            bad(1, start + " rank 1 ^rank 1;");
            bad(1, start + " if a0=1 ^if a0=1;");
        }
    }

    private static void tests() {
        next(PLACE + " if a0", "= <");
        next(PLACE + " if a0 =", NUMBERS);
        next(PLACE + " if a0 <", NUMBERS);
        next(PLACE + " if a0 = 1 and a0 <", NUMBERS);
        bad(1, PLACE + " if a0=^=1;");
        bad(1, PLACE + " if a0<^=1;");
        bad(1, PLACE + " if a0=^a1;");
        bad(1, PLACE + " if ^1=a0;");
    }

    private static void facts() {
        next(PLACE + " if", "a0 a1 a2 a3");
        next(TIME + " if a3 = 0 and", "a0 a1 a2 a3");
        for (int n = 4; n <= 9; n++) {
            bad(1, PLACE + " if ^a" + n + "=1;");
        }
        for (int a = 0; a < 4; a++) {
            KeepForget k = with("place any all s0 if a" + a + "=7;");
            for (int told = 0; told < 4; told++) {
                k.fact(0, told, 7);
                is("a" + a + ", " + told + " told", k.places(0, 0), told >= a ? 1 : 15);
            }
        }
    }

    // ---- faults

    private static void faults() {
        sentence("FAULTS, the first along the text", TextsTest::firstFault);
        sentence("at a TOKEN's first byte", TextsTest::firstByte);
        sentence("1 a TOKEN that can't stand there, or is none", TextsTest::cannotStand);
        sentence("(the text's length where it ends too soon)", TextsTest::endsTooSoon);
        sentence("2 one that can, but is too much: a NUMBER of 5 digits or more", TextsTest::longNumbers);
        sentence("the first TOKEN of the 25th RULE", TextsTest::manyRules);
        sentence("the FACT of a RULE's fifth TEST", TextsTest::manyTests);
        sentence("3 a STORE that stands in its RULE already", TextsTest::storeTwice);
    }

    private static void firstFault() {
        bad(1, "^x y z");
        bad(1, "keep ^x 12345;");
        bad(2, "keep any all ^12345 x;");
        bad(2, "keep any all ^12345 days from e0 if a0=12345;");
        bad(3, "place any all s0 ^s0 s9 #");
        bad(1, "place any all s0 ^s9 s0;");
        bad(1, "place any all s0; ^#; place any all s0 s0;");
        bad(3, "place any all s0; place any all s1 ^s1; #");
        String many = (PLACE + ";").repeat(23);
        bad(3, many + "place any all s0 ^s0;" + PLACE + ";" + PLACE + ";");
        bad(1, many + "place any all s0^#;" + PLACE + ";" + PLACE + ";");
    }

    private static void firstByte() {
        bad(1, "^k");
        bad(1, "  ^keeps");
        bad(1, "\n\n ^keeps any");
        bad(1, "keep   ^keep");
        bad(2, "keep any all   ^12345678");
        bad(3, "place any all s0\n ^s0");
        bad(1, "place any all s0;;".replace(";;", ";^;"));
        bad(1, "place any all s0 ;  ^;");
        bad(1, "place any all s0 if a0  ^>1;");
    }

    private static void cannotStand() {
        bad(1, "^;");
        bad(1, "^=");
        bad(1, "^1");
        bad(1, "^12345");
        bad(1, "^any");
        bad(1, "^#");
        bad(1, "^\u00ff");
        bad(1, "^\0");
        bad(1, "keep any all ^place");
        bad(1, "keep any all ^months");
        bad(1, TIME + " if a0=^months;");
        bad(1, TIME + " rank ^months;");
        bad(1, "keep ^12345");
        bad(1, "keep any ^12345");
        bad(1, "keep any all 1 ^12345");
        bad(1, TIME + " ^12345");
        bad(1, TIME + " if ^12345");
        bad(1, TIME + " if a0 ^12345");
        bad(1, TIME + " if a0=1 ^12345");
        bad(1, TIME + " rank 1 ^12345");
        bad(1, "place any all ^12345");
        bad(1, PLACE + " ^12345");
        bad(1, PLACE + "^#");
        bad(1, PLACE + ";^#");
        bad(1, TIME + " ^s0;");
        bad(1, PLACE + " ^days;");
    }

    private static void endsTooSoon() {
        String[][] rules = {
            {"keep", "any", "all", "1", "days", "from", "e0", "if", "a0", "=", "1", "and", "a1", "<", "2", "rank", "3", ";"},
            {"end", "k0", "f0", "9999", "years", "from", "e3", "rank", "3", ";"},
            {"place", "any", "all", "s0", "s1", "s2", "s3", "if", "a3", "<", "9999", "rank", "9999", ";"},
        };
        for (String before : new String[] {"", PLACE + "; "}) {
            for (String[] rule : rules) {
                String text = before + rule[0];
                for (int i = 1; i < rule.length; i++) {
                    bad(1, text, text.length());
                    bad(1, text + " ", text.length() + 1);
                    bad(1, text + "\n \n", text.length() + 3);
                    text += " " + rule[i];
                }
                good(text, before.isEmpty() ? 1 : 2);
                good(text + " \n", before.isEmpty() ? 1 : 2);
            }
        }
        // what is cut within a token is a token that can't stand there, or ends too soon behind it
        KeepForget k = new KeepForget();
        lay(k, TIME + ";");
        is("up to the last sign", k.rules(TIME.length(), 0), -2);
        is("at its length", k.fault(), TIME.length());
        lay(k, TIME + ";");
        is("within the last word", k.rules(TIME.length() - 1, 0), -2);
        is("at the word", k.fault(), TIME.length() - 2);
        lay(k, "keep any all 12345");
        is("within the number", k.rules(17, 0), -2);
        is("at its length", k.fault(), 17);
    }

    private static void longNumbers() {
        String[] starts = {"keep any all ", "end k0 f0 ", PLACE + " if a0=", PLACE + " if a0=1 and a1< ", PLACE + " rank ",
            TIME + " if a0=1 rank "};
        String[] ends = {" days from e0;", " months from e0;", ";", ";", ";", ";"};
        for (int i = 0; i < starts.length; i++) {
            good(starts[i] + "9999" + ends[i], 1);
            good(starts[i] + "0000" + ends[i], 1);
            bad(2, starts[i] + "^10000" + ends[i]);
            bad(2, starts[i] + "^00000" + ends[i]);
            bad(2, starts[i] + "^123456789012" + ends[i]);
            bad(2, starts[i] + "^12345");
        }
    }

    private static void manyRules() {
        for (String rule : new String[] {PLACE + ";", "end any f0 1 days from e0;"}) {
            String many = rule.repeat(24);
            good(many, 24);
            good(many + "\n", 24);
            for (String start : new String[] {"keep", "end", "place"}) {
                bad(2, many + "^" + start);
                bad(2, many + " \n^" + start + " any all 1 days from e0;");
            }
            bad(2, many + "^" + rule);
            bad(1, many + "^;");
            bad(1, many + "^12345");
            bad(1, many + "^any");
            bad(1, many + "^#");
            bad(1, rule.repeat(23) + "^any");
            bad(1, rule.repeat(23) + "keep^");
        }
    }

    private static void manyTests() {
        for (String start : new String[] {PLACE, TIME}) {
            for (String test : new String[] {"a0=0", "a3<9999"}) {
                String four = start + " if " + test + (" and " + test).repeat(3);
                good(four + ";", 1);
                good(four + " rank 1;", 1);
                good(four + ";" + four + ";", 2);
                bad(2, four + " and ^a0=0;");
                bad(2, four + " and ^a3<1 and a0=0;");
                bad(2, four + " and ^a0");
                bad(1, four + " and^");
                bad(1, four + " and ^a4=0;");
                bad(1, four + " and ^e0=0;");
                bad(1, four + " and ^12345");
                bad(1, four + " and ^;");
                bad(2, PLACE + ";" + four + " and ^a0=0;");
            }
        }
    }

    private static void storeTwice() {
        for (int a = 0; a < 4; a++) {
            for (int b = 0; b < 4; b++) {
                String text = "place any all s" + a + " ";
                if (a == b) {
                    bad(3, text + "^s" + b + ";");
                } else {
                    good(text + "s" + b + ";", 1);
                    bad(3, text + "s" + b + " ^s" + a + ";");
                }
            }
            bad(3, "place any all s0 s1 s2 s3 ^s" + a + ";");
            good("place any all s" + a + ";place any all s" + a + ";", 2);
        }
        good("place any all s3 s1 s0 s2;", 1);
        bad(3, "place any all s0 s1 ^s0 s2 s3;");
    }
}
