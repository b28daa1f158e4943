import java.util.NoSuchElementException;

/** Settles rules that bid keep this and end that; ../shared/DOC.md says what each call answers. */
public final class KeepForget {
    public static final int NONE = -1;

    private static final int NEVER = 999999;
    private static final int LAST_DAY = 200000;
    private static final int FIRST_YEAR = 2000;
    private static final int LAST_YEAR = 2547;
    private static final int MOST_MONTHS = 9999 * 12;
    private static final int MOST_BYTES = 1000;
    private static final int FEED_BYTES = 20;
    private static final int MOST_SETS = 8;
    private static final int SETS_ARE_FULL = -9;
    private static final int MOST_RULES = 24;
    private static final int MOST_TESTS = 4;
    private static final int MOST_DIGITS = 4;
    private static final int MOST_THINGS = 30;
    private static final int KINDS = 4;
    private static final int FACTS = 4;
    private static final int MOST_FACT = 9999;
    private static final int EVENTS = 4;
    private static final int FIELDS = 8;
    private static final int ALL_KINDS = 15;
    private static final int ALL_FIELDS = 255;
    private static final int STORES = 4;
    private static final int ALL_STORES = 15;
    private static final int MOST_EVERY = 400;
    private static final int MOST_FIRST = 399;
    private static final int MOST_HOLDS = 40;
    private static final int MOST_DAYS = 1000;
    private static final int MOST_LINES = 400;
    private static final int LINE_PARTS = 5;

    private final byte[] tape;
    private int tapeLength;
    private int faultPlace;
    private final RuleSet[] sets;
    private int setCount;
    private final Thing[] things;
    private int thingCount;
    private final Sweeper[] sweepers;
    private final Hold[] holds;
    private int holdCount;
    private final Log log;
    /** One span for all settlings, so that no call makes a new one. */
    private final Span settled;
    private int now;

    public KeepForget() {
        tape = new byte[MOST_BYTES];
        faultPlace = NONE;
        sets = new RuleSet[MOST_SETS];
        things = new Thing[MOST_THINGS];
        sweepers = new Sweeper[STORES];
        for (int s = 0; s < STORES; s++) {
            sweepers[s] = new Sweeper();
        }
        holds = new Hold[MOST_HOLDS];
        log = new Log();
        settled = new Span();
    }

    // ---- the calendar

    public int day(int year, int month, int day) throws IllegalArgumentException {
        if (year < FIRST_YEAR || year > LAST_YEAR || month < 1 || month > 12) {
            throw new IllegalArgumentException("no such month, or none of ours");
        }
        int months = (year - FIRST_YEAR) * 12 + month - 1;
        if (day < 1 || day > Dates.monthLength(months)) {
            throw new IllegalArgumentException("no such day of the month");
        }
        int number = Dates.monthStart(months) + day - 1;
        if (number > LAST_DAY) {
            throw new IllegalArgumentException("after the last day");
        }
        return number;
    }

    public int date(int day, int what) throws IllegalArgumentException {
        checkDay(day);
        int months = Dates.monthOf(day);
        switch (what) {
            case 0:
                return FIRST_YEAR + months / 12;
            case 1:
                return months % 12 + 1;
            case 2:
                return day - Dates.monthStart(months) + 1;
            default:
                throw new IllegalArgumentException("no such part of a date");
        }
    }

    public int later(int day, int months) throws IllegalArgumentException {
        checkDay(day);
        if (months < 0 || months > MOST_MONTHS) {
            throw new IllegalArgumentException("no such number of months");
        }
        return Dates.monthsAfter(day, months);
    }

    // ---- the tape and the sets of rules

    public int feed(int a, int b, int c, int d, int e) {
        if (tapeLength + FEED_BYTES > MOST_BYTES) {
            return NONE;
        }
        putOnTape(a);
        putOnTape(b);
        putOnTape(c);
        putOnTape(d);
        putOnTape(e);
        return tapeLength;
    }

    public int rules(int n, int day) throws IllegalArgumentException {
        checkDay(day);
        if (n < 0 || n > tapeLength) {
            throw new IllegalArgumentException("the tape has not so many bytes");
        }
        tapeLength = 0;
        faultPlace = NONE;
        if (setCount >= MOST_SETS) {
            return SETS_ARE_FULL;
        }
        RuleSet set = new RuleSet(day);
        RuleReader reader = new RuleReader(tape, n);
        reader.readInto(set);
        if (reader.fault != 0) {
            faultPlace = reader.faultPlace;
            return -1 - reader.fault;
        }
        sets[setCount] = set;
        setCount++;
        return setCount - 1;
    }

    public int fault() {
        return faultPlace;
    }

    // ---- things, their facts, events and copies

    public int thing(int kind) {
        if (thingCount >= MOST_THINGS || kind < 0 || kind >= KINDS) {
            return NONE;
        }
        things[thingCount] = new Thing(kind);
        thingCount++;
        return thingCount - 1;
    }

    public int fact(int thing, int fact, int v) throws NoSuchElementException, IllegalArgumentException {
        Thing it = thingAt(thing);
        if (fact < 0 || fact >= FACTS) {
            throw new NoSuchElementException("no such fact");
        }
        if (v < 0 || v > MOST_FACT) {
            throw new IllegalArgumentException("no such value of a fact");
        }
        int was = it.facts[fact];
        it.facts[fact] = v;
        return was;
    }

    public int event(int thing, int event, int day) throws NoSuchElementException, IllegalArgumentException {
        Thing it = thingAt(thing);
        if (event < 0 || event >= EVENTS) {
            throw new NoSuchElementException("no such event");
        }
        if (day != NONE) {
            checkDay(day);
        }
        int was = it.events[event];
        it.events[event] = day;
        return was;
    }

    public boolean copy(int thing, int field, int store) throws NoSuchElementException {
        Thing it = thingAt(thing);
        checkField(field);
        checkStore(store);
        if (it.hasCopy(field, store) || (placesOf(it, field) >> store & 1) == 0) {
            return false;
        }
        it.copies[field] |= 1 << store;
        return true;
    }

    public int copies(int thing, int field) throws NoSuchElementException {
        Thing it = thingAt(thing);
        checkField(field);
        return it.copies[field];
    }

    public void store(int store, int every, int first) throws NoSuchElementException, IllegalArgumentException {
        checkStore(store);
        if (every < 1 || every > MOST_EVERY || first < 0 || first > MOST_FIRST) {
            throw new IllegalArgumentException("no such days to sweep on");
        }
        sweepers[store].every = every;
        sweepers[store].first = first;
    }

    // ---- holds and wishes

    public int hold(int thing, int fields) throws NoSuchElementException {
        Thing it = thingAt(thing);
        if (holdCount >= MOST_HOLDS || fields < 1 || fields > ALL_FIELDS) {
            return NONE;
        }
        holds[holdCount] = new Hold(it, fields);
        holdCount++;
        it.held |= fields;
        return holdCount - 1;
    }

    public boolean lift(int hold) throws NoSuchElementException {
        if (hold < 0 || hold >= holdCount) {
            throw new NoSuchElementException("no such hold");
        }
        Hold lifted = holds[hold];
        if (lifted.isLifted) {
            return false;
        }
        lifted.isLifted = true;
        lifted.thing.held = heldFields(lifted.thing);
        return true;
    }

    public int wish(int thing) throws NoSuchElementException {
        Thing it = thingAt(thing);
        it.isWished = true;
        RuleSet set = setInForce();
        int due = 0;
        for (int f = 0; f < FIELDS; f++) {
            if (it.copies[f] != 0) {
                settled.settle(it, f, set);
                due |= settled.isDue(now) ? 1 << f : 0;
            }
        }
        return due;
    }

    // ---- what the rules bid

    public int span(int thing, int field, int set, int what) throws NoSuchElementException {
        Thing it = thingAt(thing);
        checkField(field);
        settled.settle(it, field, chosenSet(set));
        switch (what) {
            case 0:
                return settled.from;
            case 1:
                return settled.to;
            case 2:
                return settled.fromRule;
            case 3:
                return settled.toRule;
            case 4:
                return settled.lostCount;
            default:
                throw new NoSuchElementException("no such part of a span");
        }
    }

    public int lost(int thing, int field, int set, int i) throws NoSuchElementException {
        Thing it = thingAt(thing);
        checkField(field);
        settled.settle(it, field, chosenSet(set));
        if (i < 0 || i >= settled.lostCount) {
            throw new NoSuchElementException("no such lost rule");
        }
        return settled.lostRules[i];
    }

    public int why(int thing, int field) throws NoSuchElementException {
        Thing it = thingAt(thing);
        checkField(field);
        settled.settle(it, field, setInForce());
        if (settled.isHeld) {
            return 1;
        }
        if (settled.from > now) {
            return 2;
        }
        return settled.isDue(now) ? 0 : 3;
    }

    public int places(int thing, int field) throws NoSuchElementException {
        Thing it = thingAt(thing);
        checkField(field);
        return placesOf(it, field);
    }

    public int misplaced() {
        int many = 0;
        for (int t = 0; t < thingCount; t++) {
            for (int f = 0; f < FIELDS; f++) {
                int copies = things[t].copies[f];
                if (copies != 0) {
                    many += Integer.bitCount(copies & ~placesOf(things[t], f));
                }
            }
        }
        return many;
    }

    public int planned(int thing, int field, int store) throws NoSuchElementException {
        Thing it = thingAt(thing);
        checkField(field);
        checkStore(store);
        if (!it.hasCopy(field, store)) {
            return NONE;
        }
        settled.settle(it, field, setInForce());
        return settledDay(store);
    }

    public int differ(int set, int other) throws NoSuchElementException {
        RuleSet one = setAt(set);
        RuleSet two = setAt(other);
        int many = 0;
        for (int t = 0; t < thingCount; t++) {
            for (int f = 0; f < FIELDS; f++) {
                settled.settle(things[t], f, one);
                int from = settled.from;
                int to = settled.to;
                settled.settle(things[t], f, two);
                many += from != settled.from || to != settled.to ? 1 : 0;
            }
        }
        return many;
    }

    public boolean bites(int set, int rule) throws NoSuchElementException {
        RuleSet chosen = setAt(set);
        if (rule < 0 || rule >= chosen.ruleCount) {
            throw new NoSuchElementException("no such rule");
        }
        for (int t = 0; t < thingCount; t++) {
            for (int f = 0; f < FIELDS; f++) {
                if (things[t].copies[f] != 0 && chosen.rules[rule].isFor(things[t], f)) {
                    return true;
                }
            }
        }
        return false;
    }

    // ---- the days and what was done on them

    public int days(int n) throws IllegalArgumentException {
        if (n < 0 || n > MOST_DAYS || now + n > LAST_DAY) {
            throw new IllegalArgumentException("no such number of days");
        }
        int last = now + n;
        for (int step = 0; step < n && now < last; step++) {
            now = nextBusyDay(last);
            for (int s = 0; s < STORES; s++) {
                if (sweepers[s].firstFrom(now) == now) {
                    sweep(s);
                }
            }
        }
        return now;
    }

    public int entry(int i, int what) throws NoSuchElementException {
        if (i < 0 || i >= log.lineCount || i >= MOST_LINES || what < 0 || what >= LINE_PARTS) {
            throw new NoSuchElementException("no such part of a line");
        }
        return log.parts[i * LINE_PARTS + what];
    }

    public int count(int what) throws NoSuchElementException {
        switch (what) {
            case 0:
                return now;
            case 1:
                return thingCount;
            case 2:
                return setCount;
            case 3:
                return numberInForce();
            case 4:
                return log.lineCount;
            case 5:
                return log.lateCount;
            case 6:
                return copyCount();
            case 7:
                return openHoldCount();
            case 8:
                return tapeLength;
            case 9:
                RuleSet set = setInForce();
                return set == null ? 0 : set.ruleCount;
            default:
                throw new NoSuchElementException("no such count");
        }
    }

    // ---- what the calls share

    private static void checkDay(int day) {
        if (day < 0 || day > LAST_DAY) {
            throw new IllegalArgumentException("no such day");
        }
    }

    private static void checkField(int field) {
        if (field < 0 || field >= FIELDS) {
            throw new NoSuchElementException("no such field");
        }
    }

    private static void checkStore(int store) {
        if (store < 0 || store >= STORES) {
            throw new NoSuchElementException("no such store");
        }
    }

    private Thing thingAt(int thing) {
        if (thing < 0 || thing >= thingCount) {
            throw new NoSuchElementException("no such thing");
        }
        return things[thing];
    }

    private RuleSet setAt(int set) {
        if (set < 0 || set >= setCount) {
            throw new NoSuchElementException("no such set");
        }
        return sets[set];
    }

    private RuleSet chosenSet(int set) {
        return set == NONE ? setInForce() : setAt(set);
    }

    /** Null while no set is in force: a span is settled, and places are told, without rules then. */
    private RuleSet setInForce() {
        int set = numberInForce();
        return set == NONE ? null : sets[set];
    }

    private int numberInForce() {
        int best = NONE;
        for (int s = 0; s < setCount; s++) {
            if (sets[s].day <= now && (best == NONE || sets[s].day >= sets[best].day)) {
                best = s;
            }
        }
        return best;
    }

    private void putOnTape(int four) {
        for (int shift = 24; shift >= 0 && tapeLength < MOST_BYTES; shift -= 8) {
            tape[tapeLength] = (byte) (four >> shift);
            tapeLength++;
        }
    }

    private int placesOf(Thing thing, int field) {
        RuleSet set = setInForce();
        return set == null ? ALL_STORES : set.storesFor(thing, field);
    }

    private int heldFields(Thing thing) {
        int held = 0;
        for (int h = 0; h < holdCount; h++) {
            if (holds[h].thing == thing && !holds[h].isLifted) {
                held |= holds[h].fields;
            }
        }
        return held;
    }

    private int openHoldCount() {
        int many = 0;
        for (int h = 0; h < holdCount; h++) {
            many += holds[h].isLifted ? 0 : 1;
        }
        return many;
    }

    private int copyCount() {
        int many = 0;
        for (int t = 0; t < thingCount; t++) {
            for (int f = 0; f < FIELDS; f++) {
                many += Integer.bitCount(things[t].copies[f]);
            }
        }
        return many;
    }

    /** On which day a copy in a store ends, if its field's span is the one settled last. */
    private int settledDay(int store) {
        int earliest = Math.max(now + 1, settled.from);
        return settled.isDue(earliest) ? sweepers[store].firstFrom(earliest) : NEVER;
    }

    /**
     * The next day, up to the last, on which a copy ends or another set may come in force: nothing
     * is done on the days before it, so they need not be gone through one by one.
     */
    private int nextBusyDay(int last) {
        int next = last;
        for (int s = 0; s < setCount; s++) {
            if (sets[s].day > now) {
                next = Math.min(next, sets[s].day);
            }
        }
        RuleSet set = setInForce();
        for (int t = 0; t < thingCount; t++) {
            for (int f = 0; f < FIELDS; f++) {
                if (things[t].copies[f] != 0) {
                    settled.settle(things[t], f, set);
                    next = Math.min(next, firstSettledDay(things[t].copies[f]));
                }
            }
        }
        return next;
    }

    private int firstSettledDay(int stores) {
        int day = NEVER;
        for (int s = 0; s < STORES; s++) {
            if ((stores >> s & 1) != 0) {
                day = Math.min(day, settledDay(s));
            }
        }
        return day;
    }

    private void sweep(int store) {
        RuleSet set = setInForce();
        for (int t = 0; t < thingCount; t++) {
            for (int f = 0; f < FIELDS; f++) {
                if (things[t].hasCopy(f, store)) {
                    settled.settle(things[t], f, set);
                    if (settled.isDue(now)) {
                        things[t].copies[f] &= ~(1 << store);
                        log.add(t, f, store, now, settled);
                    }
                }
            }
        }
    }

    /** The calendar, in months from January 2000 on. */
    private static final class Dates {
        private static final int[] DAYS_BEFORE = {0, 31, 59, 90, 120, 151, 181, 212, 243, 273, 304, 334};
        private static final long MONTHS_OF_CYCLE = 4800;
        private static final long DAYS_OF_CYCLE = 146097;

        static int monthStart(int months) {
            int years = months / 12;
            int month = months < 0 ? 0 : months % 12;
            // From March on, the year's own leap day has gone by, too.
            int leapYears = month < 2 ? years : years + 1;
            int leapDays = (leapYears + 3) / 4 - (leapYears + 99) / 100 + (leapYears + 399) / 400;
            return years * 365 + DAYS_BEFORE[month] + leapDays;
        }

        static int monthLength(int months) {
            return monthStart(months + 1) - monthStart(months);
        }

        static int monthOf(int day) {
            // The even share of the 400 years' months is never more than one month too far.
            int months = Math.max(0, (int) (day * MONTHS_OF_CYCLE / DAYS_OF_CYCLE) - 1);
            for (int step = 0; step < 3 && monthStart(months + 1) <= day; step++) {
                months++;
            }
            return months;
        }

        static int monthsAfter(int day, int months) {
            int month = monthOf(day);
            int daysIn = day - monthStart(month);
            int number = monthStart(month + months) + Math.min(daysIn, monthLength(month + months) - 1);
            return number > LAST_DAY ? NEVER : number;
        }
    }

    private static final class Thing {
        final int kind;
        final int[] facts;
        final int[] events;
        /** For each field, the stores that have it, as bits. */
        final int[] copies;
        /** The fields that some hold has which isn't lifted, as bits. */
        int held;
        boolean isWished;

        Thing(int kind) {
            this.kind = kind;
            facts = new int[FACTS];
            events = new int[EVENTS];
            for (int e = 0; e < EVENTS; e++) {
                events[e] = NONE;
            }
            copies = new int[FIELDS];
        }

        boolean hasCopy(int field, int store) {
            return (copies[field] >> store & 1) != 0;
        }
    }

    private static final class Hold {
        final Thing thing;
        final int fields;
        boolean isLifted;

        Hold(Thing thing, int fields) {
            this.thing = thing;
            this.fields = fields;
        }
    }

    /** When a store sweeps. */
    private static final class Sweeper {
        int every;
        int first;

        Sweeper() {
            every = 1;
        }

        /** The first day that is not before the one told and on which the store sweeps. */
        int firstFrom(int day) {
            if (day <= first) {
                return first;
            }
            int past = every < 1 ? 0 : (day - first) % every;
            int sweepDay = past == 0 ? day : day + every - past;
            return sweepDay > LAST_DAY ? NEVER : sweepDay;
        }
    }

    /** The copies that ended, a line each; the first lines are kept, all are counted. */
    private static final class Log {
        final int[] parts;
        int lineCount;
        int lateCount;

        Log() {
            parts = new int[MOST_LINES * LINE_PARTS];
        }

        void add(int thing, int field, int store, int day, Span span) {
            if (lineCount < MOST_LINES) {
                int at = lineCount * LINE_PARTS;
                parts[at] = thing;
                parts[at + 1] = field;
                parts[at + 2] = store;
                parts[at + 3] = day;
                parts[at + 4] = span.toRule;
            }
            lineCount++;
            lateCount += day > span.to ? 1 : 0;
        }
    }

    private static final class Rule {
        static final int KEEP = 0;
        static final int END = 1;
        static final int PLACE = 2;

        final int sort;
        /** Which kinds, fields and stores it names, as bits. */
        int kinds;
        int fields;
        int stores;
        int amount;
        /** How many months the amount is times; 0: it is days. */
        int unitMonths;
        int event;
        int rank;
        int testCount;
        final int[] testFacts;
        final boolean[] testIsLess;
        final int[] testNumbers;

        Rule(int sort) {
            this.sort = sort;
            testFacts = new int[MOST_TESTS];
            testIsLess = new boolean[MOST_TESTS];
            testNumbers = new int[MOST_TESTS];
        }

        boolean isFor(Thing thing, int field) {
            if ((kinds >> thing.kind & 1) == 0 || (fields >> field & 1) == 0) {
                return false;
            }
            for (int i = 0; i < testCount && i < MOST_TESTS; i++) {
                int value = thing.facts[testFacts[i]];
                if (testIsLess[i] ? value >= testNumbers[i] : value != testNumbers[i]) {
                    return false;
                }
            }
            return true;
        }

        /** The event and so long, or NEVER; NONE if the event is not known. */
        int dayFor(Thing thing) {
            int start = thing.events[event];
            if (start == NONE) {
                return NONE;
            }
            if (unitMonths != 0) {
                return Dates.monthsAfter(start, amount * unitMonths);
            }
            return start + amount > LAST_DAY ? NEVER : start + amount;
        }
    }

    private static final class RuleSet {
        final int day;
        final Rule[] rules;
        int ruleCount;
        /** The numbers of the rules that keep or end, as they are taken: by rank, then by number. */
        final int[] turns;
        int turnCount;

        RuleSet(int day) {
            this.day = day;
            rules = new Rule[MOST_RULES];
            turns = new int[MOST_RULES];
        }

        boolean isFull() {
            return ruleCount >= MOST_RULES;
        }

        void add(Rule rule) {
            if (isFull()) {
                return;
            }
            rules[ruleCount] = rule;
            if (rule.sort != Rule.PLACE) {
                putInTurn(ruleCount, rule.rank);
            }
            ruleCount++;
        }

        private void putInTurn(int number, int rank) {
            int at = turnCount;
            while (at > 0 && rules[turns[at - 1]].rank < rank) {
                turns[at] = turns[at - 1];
                at--;
            }
            turns[at] = number;
            turnCount++;
        }

        int storesFor(Thing thing, int field) {
            int stores = ALL_STORES;
            for (int r = 0; r < ruleCount; r++) {
                if (rules[r].sort == Rule.PLACE && rules[r].isFor(thing, field)) {
                    stores &= rules[r].stores;
                }
            }
            return stores;
        }
    }

    /** When a field may end, by a set's rules; settled anew for each question. */
    private static final class Span {
        int from;
        int to;
        int fromRule;
        int toRule;
        final int[] lostRules;
        int lostCount;
        boolean isHeld;
        boolean isWished;

        Span() {
            lostRules = new int[MOST_RULES];
        }

        void settle(Thing thing, int field, RuleSet set) {
            from = 0;
            to = NEVER;
            fromRule = NONE;
            toRule = NONE;
            lostCount = 0;
            isHeld = (thing.held >> field & 1) != 0;
            isWished = thing.isWished;
            if (set == null) {
                return;
            }
            for (int turn = 0; turn < set.turnCount; turn++) {
                int number = set.turns[turn];
                Rule rule = set.rules[number];
                if (rule.isFor(thing, field)) {
                    take(rule.sort, number, rule.dayFor(thing));
                }
            }
        }

        private void take(int sort, int number, int day) {
            if (sort == Rule.KEEP) {
                keepUntil(day == NONE ? NEVER : day, number);
            } else if (day != NONE) {
                endAt(day, number);
            }
        }

        private void keepUntil(int day, int number) {
            if (day > to) {
                lose(number);
            } else if (day > from) {
                from = day;
                fromRule = number;
            }
        }

        private void endAt(int day, int number) {
            if (day < from) {
                lose(number);
            } else if (day < to) {
                to = day;
                toRule = number;
            }
        }

        private void lose(int number) {
            if (lostCount < MOST_RULES) {
                lostRules[lostCount] = number;
                lostCount++;
            }
        }

        boolean isDue(int day) {
            return !isHeld && from <= day && (to != NEVER || isWished);
        }
    }

    /** Reads a text token by token into a set, up to its first fault. */
    private static final class RuleReader {
        private static final int OVER = 0;
        private static final int WORD = 1;
        private static final int NUMBER = 2;
        private static final int SIGN = 3;
        private static final int NO_TOKEN = 4;

        private static final int CANNOT_STAND = 1;
        private static final int TOO_MUCH = 2;
        private static final int STANDS_ALREADY = 3;

        private final byte[] text;
        private final int length;
        /** The token at hand: its sort, its first byte, the first byte behind it. */
        private int token;
        private int start;
        private int end;
        /** 0 without a fault. */
        int fault;
        int faultPlace;

        RuleReader(byte[] text, int length) {
            this.text = text;
            this.length = Math.min(length, text.length);
        }

        void readInto(RuleSet set) {
            next();
            // One round more than there may be rules: the 25th is a fault.
            for (int r = 0; r <= MOST_RULES && token != OVER; r++) {
                if (!readRule(set)) {
                    return;
                }
            }
        }

        /** As all that read: true if there was no fault. */
        private boolean readRule(RuleSet set) {
            int sort = ruleSort();
            if (sort == NONE) {
                return fail(CANNOT_STAND);
            }
            if (set.isFull()) {
                return fail(TOO_MUCH);
            }
            next();
            Rule rule = new Rule(sort);
            if (!readWhat(rule)) {
                return false;
            }
            if (sort == Rule.PLACE ? !readStores(rule) : !readTime(rule)) {
                return false;
            }
            if (!readTests(rule) || !readRank(rule)) {
                return false;
            }
            if (!isSign(';')) {
                return fail(CANNOT_STAND);
            }
            next();
            set.add(rule);
            return true;
        }

        private int ruleSort() {
            if (isWord("keep")) {
                return Rule.KEEP;
            }
            if (isWord("end")) {
                return Rule.END;
            }
            return isWord("place") ? Rule.PLACE : NONE;
        }

        private boolean readWhat(Rule rule) {
            rule.kinds = isWord("any") ? ALL_KINDS : bitOf('k', KINDS);
            if (rule.kinds == 0) {
                return fail(CANNOT_STAND);
            }
            next();
            rule.fields = isWord("all") ? ALL_FIELDS : bitOf('f', FIELDS);
            if (rule.fields == 0) {
                return fail(CANNOT_STAND);
            }
            next();
            return true;
        }

        private boolean readTime(Rule rule) {
            if (!checkNumber()) {
                return false;
            }
            rule.amount = number();
            next();
            if (!isWord("days") && !isWord("months") && !isWord("years")) {
                return fail(CANNOT_STAND);
            }
            rule.unitMonths = isWord("years") ? 12 : isWord("months") ? 1 : 0;
            next();
            if (!isWord("from")) {
                return fail(CANNOT_STAND);
            }
            next();
            rule.event = numbered('e', EVENTS);
            if (rule.event == NONE) {
                return fail(CANNOT_STAND);
            }
            next();
            return true;
        }

        private boolean readStores(Rule rule) {
            int bit = bitOf('s', STORES);
            if (bit == 0) {
                return fail(CANNOT_STAND);
            }
            // One round more than there are stores: the fifth stands there already.
            for (int s = 0; s <= STORES && bit != 0; s++) {
                if ((rule.stores & bit) != 0) {
                    return fail(STANDS_ALREADY);
                }
                rule.stores |= bit;
                next();
                bit = bitOf('s', STORES);
            }
            return true;
        }

        private boolean readTests(Rule rule) {
            boolean more = isWord("if");
            // One round more than there may be tests: the fifth is a fault.
            for (int i = 0; i <= MOST_TESTS && more; i++) {
                next();
                if (!readTest(rule)) {
                    return false;
                }
                more = isWord("and");
            }
            return true;
        }

        private boolean readTest(Rule rule) {
            int fact = numbered('a', FACTS);
            if (fact == NONE) {
                return fail(CANNOT_STAND);
            }
            int at = rule.testCount;
            if (at >= MOST_TESTS) {
                return fail(TOO_MUCH);
            }
            next();
            if (!isSign('=') && !isSign('<')) {
                return fail(CANNOT_STAND);
            }
            rule.testFacts[at] = fact;
            rule.testIsLess[at] = isSign('<');
            next();
            if (!checkNumber()) {
                return false;
            }
            rule.testNumbers[at] = number();
            rule.testCount++;
            next();
            return true;
        }

        private boolean readRank(Rule rule) {
            if (!isWord("rank")) {
                return true;
            }
            next();
            if (!checkNumber()) {
                return false;
            }
            rule.rank = number();
            next();
            return true;
        }

        /** A fault if it is none, or too long a one. */
        private boolean checkNumber() {
            if (token != NUMBER) {
                return fail(CANNOT_STAND);
            }
            return end - start <= MOST_DIGITS || fail(TOO_MUCH);
        }

        private int number() {
            int number = 0;
            for (int i = start; i < end; i++) {
                number = number * 10 + text[i] - '0';
            }
            return number;
        }

        /** Always false, so that what reads can end with it. */
        private boolean fail(int what) {
            fault = what;
            faultPlace = start;
            return false;
        }

        private boolean isWord(String word) {
            if (token != WORD || end - start != word.length()) {
                return false;
            }
            for (int i = 0; i < word.length(); i++) {
                if (text[start + i] != word.charAt(i)) {
                    return false;
                }
            }
            return true;
        }

        private boolean isSign(char sign) {
            return token == SIGN && text[start] == sign;
        }

        /** The number of a word such as k0, of so many from 0 on; NONE if it is another word. */
        private int numbered(char letter, int many) {
            if (token != WORD || end - start != 2 || text[start] != letter) {
                return NONE;
            }
            int number = text[start + 1] - '0';
            return number >= 0 && number < many ? number : NONE;
        }

        private int bitOf(char letter, int many) {
            int number = numbered(letter, many);
            return number == NONE ? 0 : 1 << number;
        }

        private void next() {
            start = end;
            while (start < length && (text[start] == ' ' || text[start] == '\n')) {
                start++;
            }
            end = start;
            if (start >= length) {
                token = OVER;
                return;
            }
            end++;
            if (isLetter(text[start])) {
                token = WORD;
                while (end < length && (isLetter(text[end]) || isDigit(text[end]))) {
                    end++;
                }
            } else if (isDigit(text[start])) {
                token = NUMBER;
                while (end < length && isDigit(text[end])) {
                    end++;
                }
            } else {
                boolean isOneOfOurs = text[start] == ';' || text[start] == '=' || text[start] == '<';
                token = isOneOfOurs ? SIGN : NO_TOKEN;
            }
        }

        private static boolean isLetter(int sign) {
            return sign >= 'a' && sign <= 'z';
        }

        private static boolean isDigit(int sign) {
            return sign >= '0' && sign <= '9';
        }
    }
}
