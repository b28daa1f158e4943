import java.time.DateTimeException;
import java.time.LocalDate;
import java.time.temporal.ChronoUnit;
import java.util.ArrayList;
import java.util.Comparator;
import java.util.List;
import java.util.NoSuchElementException;
import java.util.regex.Matcher;
import java.util.regex.Pattern;

/** The document once more, as plainly as the Java library lets it be written: each day by itself. */
final class Model {
    private static final int NEVER = 999999;
    private static final int LAST = 200000;
    private static final LocalDate FIRST = LocalDate.of(2000, 1, 1);

    private record Test(int fact, boolean less, int number) {
    }

    private record Rule(int number, String verb, int kind, int field, int amount, String unit, int event,
                        List<Integer> stores, List<Test> tests, int rank) {
    }

    private record Ruled(int from, int to, int fromRule, int toRule, List<Integer> lost) {
    }

    private static final class Thing {
        int kind;
        int[] facts = new int[4];
        int[] events = {-1, -1, -1, -1};
        boolean[][] copies = new boolean[8][4];
        boolean wished;
    }

    private final StringBuilder tape = new StringBuilder();
    private int fault = -1;
    private final List<List<Rule>> sets = new ArrayList<>();
    private final List<Integer> setDays = new ArrayList<>();
    private final List<Thing> things = new ArrayList<>();
    private final int[] every = {1, 1, 1, 1};
    private final int[] first = {0, 0, 0, 0};
    private final List<int[]> holds = new ArrayList<>();
    private final List<Boolean> lifted = new ArrayList<>();
    private final List<int[]> log = new ArrayList<>();
    private int late;
    private int now;

    private static void arg(boolean right) {
        if (!right) {
            throw new IllegalArgumentException();
        }
    }

    private static void has(boolean right) {
        if (!right) {
            throw new NoSuchElementException();
        }
    }

    private static boolean in(int v, int low, int high) {
        return low <= v && v <= high;
    }

    int day(int year, int month, int day) {
        try {
            long d = ChronoUnit.DAYS.between(FIRST, LocalDate.of(year, month, day));
            arg(d >= 0 && d <= LAST);
            return (int) d;
        } catch (DateTimeException e) {
            throw new IllegalArgumentException();
        }
    }

    int date(int day, int what) {
        arg(in(day, 0, LAST) && in(what, 0, 2));
        LocalDate at = FIRST.plusDays(day);
        return new int[] {at.getYear(), at.getMonthValue(), at.getDayOfMonth()}[what];
    }

    int later(int day, int months) {
        arg(in(day, 0, LAST) && in(months, 0, 9999 * 12));
        return never(ChronoUnit.DAYS.between(FIRST, FIRST.plusDays(day).plusMonths(months)));
    }

    private static int never(long day) {
        return day > LAST ? NEVER : (int) day;
    }

    int feed(int a, int b, int c, int d, int e) {
        if (tape.length() + 20 > 1000) {
            return -1;
        }
        for (int v : new int[] {a, b, c, d, e}) {
            tape.append((char) (v >>> 24)).append((char) (v >>> 16 & 255));
            tape.append((char) (v >>> 8 & 255)).append((char) (v & 255));
        }
        return tape.length();
    }

    int rules(int n, int day) {
        arg(n >= 0 && n <= tape.length() && in(day, 0, LAST));
        String text = tape.substring(0, n);
        tape.setLength(0);
        fault = -1;
        if (sets.size() == 8) {
            return -9;
        }
        Reading reading = new Reading(text);
        try {
            List<Rule> set = reading.set();
            sets.add(set);
            setDays.add(day);
            return sets.size() - 1;
        } catch (Faulty f) {
            fault = f.place;
            return -1 - f.what;
        }
    }

    int fault() {
        return fault;
    }

    int thing(int kind) {
        if (things.size() == 30 || !in(kind, 0, 3)) {
            return -1;
        }
        Thing t = new Thing();
        t.kind = kind;
        things.add(t);
        return things.size() - 1;
    }

    private Thing at(int thing) {
        has(in(thing, 0, things.size() - 1));
        return things.get(thing);
    }

    int fact(int thing, int fact, int v) {
        Thing t = at(thing);
        has(in(fact, 0, 3));
        arg(in(v, 0, 9999));
        int was = t.facts[fact];
        t.facts[fact] = v;
        return was;
    }

    int event(int thing, int event, int day) {
        Thing t = at(thing);
        has(in(event, 0, 3));
        arg(in(day, -1, LAST));
        int was = t.events[event];
        t.events[event] = day;
        return was;
    }

    boolean copy(int thing, int field, int store) {
        Thing t = at(thing);
        has(in(field, 0, 7) && in(store, 0, 3));
        if (t.copies[field][store] || !placed(t, field, store)) {
            return false;
        }
        t.copies[field][store] = true;
        return true;
    }

    int copies(int thing, int field) {
        Thing t = at(thing);
        has(in(field, 0, 7));
        int bits = 0;
        for (int s = 0; s < 4; s++) {
            bits += t.copies[field][s] ? 1 << s : 0;
        }
        return bits;
    }

    void store(int store, int every, int first) {
        has(in(store, 0, 3));
        arg(in(every, 1, 400) && in(first, 0, 399));
        this.every[store] = every;
        this.first[store] = first;
    }

    int hold(int thing, int fields) {
        at(thing);
        if (holds.size() == 40 || fields == 0 || (fields & ~255) != 0) {
            return -1;
        }
        holds.add(new int[] {thing, fields});
        lifted.add(false);
        return holds.size() - 1;
    }

    boolean lift(int hold) {
        has(in(hold, 0, holds.size() - 1));
        return !lifted.set(hold, true);
    }

    int wish(int thing) {
        Thing t = at(thing);
        t.wished = true;
        int bits = 0;
        for (int f = 0; f < 8; f++) {
            bits += copies(thing, f) != 0 && why(thing, f) == 0 ? 1 << f : 0;
        }
        return bits;
    }

    int span(int thing, int field, int set, int what) {
        Ruled r = chosen(thing, field, set);
        has(in(what, 0, 4));
        return new int[] {r.from, r.to, r.fromRule, r.toRule, r.lost.size()}[what];
    }

    int lost(int thing, int field, int set, int i) {
        Ruled r = chosen(thing, field, set);
        has(in(i, 0, r.lost.size() - 1));
        return r.lost.get(i);
    }

    private Ruled chosen(int thing, int field, int set) {
        Thing t = at(thing);
        has(in(field, 0, 7) && in(set, -1, sets.size() - 1));
        return ruled(t, field, set == -1 ? rulesOn(now) : sets.get(set));
    }

    int why(int thing, int field) {
        Thing t = at(thing);
        has(in(field, 0, 7));
        Ruled r = ruled(t, field, rulesOn(now));
        if (held(thing, field)) {
            return 1;
        }
        if (r.from > now) {
            return 2;
        }
        return r.to == NEVER && !t.wished ? 3 : 0;
    }

    int places(int thing, int field) {
        Thing t = at(thing);
        has(in(field, 0, 7));
        int bits = 0;
        for (int s = 0; s < 4; s++) {
            bits += placed(t, field, s) ? 1 << s : 0;
        }
        return bits;
    }

    int misplaced() {
        int many = 0;
        for (Thing t : things) {
            for (int f = 0; f < 8; f++) {
                for (int s = 0; s < 4; s++) {
                    many += t.copies[f][s] && !placed(t, f, s) ? 1 : 0;
                }
            }
        }
        return many;
    }

    int planned(int thing, int field, int store) {
        Thing t = at(thing);
        has(in(field, 0, 7) && in(store, 0, 3));
        if (!t.copies[field][store]) {
            return -1;
        }
        Ruled r = ruled(t, field, rulesOn(now));
        if (held(thing, field) || r.to == NEVER && !t.wished) {
            return NEVER;
        }
        for (int d = now + 1; d <= LAST; d++) {
            if (sweeps(store, d) && r.from <= d) {
                return d;
            }
        }
        return NEVER;
    }

    int differ(int set, int other) {
        has(in(set, 0, sets.size() - 1) && in(other, 0, sets.size() - 1));
        int many = 0;
        for (Thing t : things) {
            for (int f = 0; f < 8; f++) {
                Ruled a = ruled(t, f, sets.get(set));
                Ruled b = ruled(t, f, sets.get(other));
                many += a.from == b.from && a.to == b.to ? 0 : 1;
            }
        }
        return many;
    }

    boolean bites(int set, int rule) {
        has(in(set, 0, sets.size() - 1) && in(rule, 0, sets.get(set).size() - 1));
        for (int t = 0; t < things.size(); t++) {
            for (int f = 0; f < 8; f++) {
                if (copies(t, f) != 0 && isFor(sets.get(set).get(rule), things.get(t), f)) {
                    return true;
                }
            }
        }
        return false;
    }

    int days(int n) {
        arg(in(n, 0, 1000) && now + n <= LAST);
        for (int i = 0; i < n; i++) {
            now++;
            for (int s = 0; s < 4; s++) {
                if (sweeps(s, now)) {
                    sweep(s);
                }
            }
        }
        return now;
    }

    private void sweep(int store) {
        for (int t = 0; t < things.size(); t++) {
            for (int f = 0; f < 8; f++) {
                Thing thing = things.get(t);
                if (thing.copies[f][store] && why(t, f) == 0) {
                    thing.copies[f][store] = false;
                    Ruled r = ruled(thing, f, rulesOn(now));
                    log.add(new int[] {t, f, store, now, r.toRule});
                    late += now > r.to ? 1 : 0;
                }
            }
        }
    }

    int entry(int i, int what) {
        has(in(i, 0, Math.min(log.size(), 400) - 1) && in(what, 0, 4));
        return log.get(i)[what];
    }

    int count(int what) {
        has(in(what, 0, 9));
        int copies = 0;
        for (Thing t : things) {
            for (boolean[] field : t.copies) {
                for (boolean c : field) {
                    copies += c ? 1 : 0;
                }
            }
        }
        int open = 0;
        for (boolean l : lifted) {
            open += l ? 0 : 1;
        }
        return new int[] {now, things.size(), sets.size(), setOn(now), log.size(), late, copies, open,
            tape.length(), rulesOn(now).size()}[what];
    }

    private boolean sweeps(int store, int day) {
        return day >= first[store] && (day - first[store]) % every[store] == 0;
    }

    private boolean held(int thing, int field) {
        for (int h = 0; h < holds.size(); h++) {
            if (!lifted.get(h) && holds.get(h)[0] == thing && (holds.get(h)[1] & 1 << field) != 0) {
                return true;
            }
        }
        return false;
    }

    private int setOn(int day) {
        int latest = setDays.stream().filter(d -> d <= day).max(Comparator.naturalOrder()).orElse(-1);
        return setDays.lastIndexOf(latest);
    }

    private List<Rule> rulesOn(int day) {
        int s = setOn(day);
        return s < 0 ? List.of() : sets.get(s);
    }

    private boolean placed(Thing thing, int field, int store) {
        return rulesOn(now).stream().filter(r -> r.verb.equals("place") && isFor(r, thing, field))
            .allMatch(r -> r.stores.contains(store));
    }

    private static boolean isFor(Rule rule, Thing thing, int field) {
        return (rule.kind == -1 || rule.kind == thing.kind) && (rule.field == -1 || rule.field == field)
            && rule.tests.stream().allMatch(t -> t.less ? thing.facts[t.fact] < t.number
                : thing.facts[t.fact] == t.number);
    }

    private Ruled ruled(Thing thing, int field, List<Rule> set) {
        List<Rule> taken = new ArrayList<>(set.stream()
            .filter(r -> !r.verb.equals("place") && isFor(r, thing, field)).toList());
        taken.sort(Comparator.comparing((Rule r) -> -r.rank).thenComparing(r -> r.number));
        int from = 0;
        int to = NEVER;
        int fromRule = -1;
        int toRule = -1;
        List<Integer> lost = new ArrayList<>();
        for (Rule r : taken) {
            int start = thing.events[r.event];
            boolean keep = r.verb.equals("keep");
            if (start == -1 && !keep) {
                continue;
            }
            int end = start == -1 ? NEVER : switch (r.unit) {
                case "days" -> never(start + r.amount);
                case "months" -> later(start, r.amount);
                default -> later(start, 12 * r.amount);
            };
            int newFrom = keep ? Math.max(from, end) : from;
            int newTo = keep ? to : Math.min(to, end);
            if (newFrom > newTo) {
                lost.add(r.number);
                continue;
            }
            fromRule = newFrom != from ? r.number : fromRule;
            toRule = newTo != to ? r.number : toRule;
            from = newFrom;
            to = newTo;
        }
        return new Ruled(from, to, fromRule, toRule, lost);
    }

    private static final class Faulty extends Exception {
        private static final long serialVersionUID = 1;
        final int what;
        final int place;

        Faulty(int what, int place) {
            this.what = what;
            this.place = place;
        }
    }

    /** Takes a text token by token; each token is asked for by a pattern. */
    private static final class Reading {
        private static final Pattern TOKEN = Pattern.compile("[ \n]*([a-z][a-z0-9]*|[0-9]+|[;=<]|[^ \n]|$)",
            Pattern.DOTALL);
        private final String text;
        private final Matcher matcher;
        private String token;
        private int place;

        Reading(String text) {
            this.text = text;
            this.matcher = TOKEN.matcher(text);
        }

        private void step() {
            matcher.find();
            token = matcher.group(1);
            place = token.isEmpty() ? text.length() : matcher.start(1);
        }

        private boolean is(String pattern) {
            return token.matches(pattern);
        }

        private String take(String pattern) throws Faulty {
            if (!is(pattern)) {
                throw new Faulty(1, place);
            }
            String taken = token;
            step();
            return taken;
        }

        private int number() throws Faulty {
            if (is("[0-9]{5,}")) {
                throw new Faulty(2, place);
            }
            return Integer.parseInt(take("[0-9]+"));
        }

        private static int digit(String word) {
            return word.charAt(1) - '0';
        }

        List<Rule> set() throws Faulty {
            step();
            List<Rule> set = new ArrayList<>();
            while (!token.isEmpty()) {
                if (set.size() == 24 && is("keep|end|place")) {
                    throw new Faulty(2, place);
                }
                set.add(rule(set.size()));
            }
            return set;
        }

        private Rule rule(int number) throws Faulty {
            String verb = take("keep|end|place");
            String kind = take("any|k[0-3]");
            String field = take("all|f[0-7]");
            List<Integer> stores = new ArrayList<>();
            int amount = 0;
            String unit = "";
            int event = 0;
            if (verb.equals("place")) {
                do {
                    int at = place;
                    int store = digit(take("s[0-3]"));
                    if (stores.contains(store)) {
                        throw new Faulty(3, at);
                    }
                    stores.add(store);
                } while (is("s[0-3]"));
            } else {
                amount = number();
                unit = take("days|months|years");
                take("from");
                event = digit(take("e[0-3]"));
            }
            List<Test> tests = tests();
            int rank = 0;
            if (is("rank")) {
                step();
                rank = number();
            }
            take(";");
            return new Rule(number, verb, kind.equals("any") ? -1 : digit(kind), field.equals("all") ? -1 : digit(field),
                amount, unit, event, stores, tests, rank);
        }

        private List<Test> tests() throws Faulty {
            List<Test> tests = new ArrayList<>();
            while (is(tests.isEmpty() ? "if" : "and")) {
                step();
                if (tests.size() == 4 && is("a[0-3]")) {
                    throw new Faulty(2, place);
                }
                int fact = digit(take("a[0-3]"));
                boolean less = take("=|<").equals("<");
                tests.add(new Test(fact, less, number()));
            }
            return tests;
        }
    }
}
