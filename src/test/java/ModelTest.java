import java.util.Arrays;
import java.util.Random;

/** Random runs of calls, always the same ones: the class must answer as the model does. */
public final class ModelTest {
    private static final int RUNS = 1000;
    /** An object is good for 512 calls; a text's telling takes up to 52 of them. */
    private static final int CALLS = 460;
    private static final int STRANGE = Integer.MIN_VALUE;

    private final Random random;
    private final KeepForget real = new KeepForget();
    private final Model model = new Model();
    private final StringBuilder told = new StringBuilder();
    private final int run;
    /** How many things, sets and holds there may be about, for numbers that mostly are right. */
    private int things;
    private int sets;
    private int holds;
    /** Runs differ in how wild they are. */
    private final int wild;
    private final int longest;
    private int calls;
    private boolean wrong;

    private ModelTest(int run) {
        this.run = run;
        random = new Random(run);
        wild = run % 5 == 0 ? 10 : 100;
        longest = new int[] {3, 30, 300, 1000}[run / 2 % 4];
    }

    public static void main(String[] args) {
        int[] seen = new int[27];
        for (int run = 0; run < RUNS; run++) {
            ModelTest test = new ModelTest(run);
            test.begin();
            while (test.calls < CALLS && !test.wrong) {
                test.call(seen);
            }
        }
        System.out.println("calls of each sort: " + Arrays.toString(seen));
        Checks.end();
    }

    /** Things with events and a set, in most runs: without them little is bidden. */
    private void begin() {
        if (run % 9 == 0) {
            return;
        }
        for (int t = 0; t < 1 + run % 3; t++) {
            ask("thing", a -> real.thing(a[0]), a -> model.thing(a[0]), random.nextInt(4));
            for (int e = 0; e < 4; e++) {
                setEvent(t, e, random.nextInt(longest));
            }
        }
        things = model.count(1);
        tell();
    }

    private void setEvent(int... told) {
        ask("event", a -> real.event(a[0], a[1], a[2]), a -> model.event(a[0], a[1], a[2]), told);
    }

    /** Few things and fields in most runs, so that copies, rules and holds meet. */
    private int few(int many) {
        return run % 4 == 0 ? of(many) : of(Math.min(many, 3));
    }

    /** One of so many from 0 on, now and then one more or less, or a strange number. */
    private int of(int many) {
        if (random.nextInt(wild) == 0) {
            return new int[] {-1, many, STRANGE, Integer.MAX_VALUE, -2, many + 1}[random.nextInt(6)];
        }
        return random.nextInt(Math.max(1, many));
    }

    private int someDay() {
        int now = model.count(0);
        return switch (random.nextInt(12)) {
            case 0 -> -1;
            case 1 -> of(200001);
            case 2 -> 200000 - random.nextInt(40);
            case 3, 4, 5 -> Math.max(0, now - random.nextInt(40));
            default -> Math.min(200000, now + random.nextInt(2 + longest));
        };
    }

    private void same(String call, long got, long want) {
        calls++;
        if (told.length() > 60000) {
            told.delete(0, 20000);
        }
        told.append("  ").append(call).append(" -> ").append(Checks.told(want)).append('\n');
        if (got != want) {
            wrong = true;
            System.out.println("run " + run + ":\n" + told);
        }
        Checks.due("run " + run + ": " + call, got, want);
    }

    private interface Asked {
        long of(int[] a);
    }

    private void ask(String name, Asked real, Asked model, int... a) {
        String call = name + Arrays.toString(a).replace('[', '(').replace(']', ')');
        same(call, Checks.answer(() -> real.of(a)), Checks.answer(() -> model.of(a)));
    }

    private void call(int[] seen) {
        int sort = random.nextInt(100);
        int at = sort < 6 ? 0 : sort < 8 ? 1 : sort < 16 ? 2 : sort < 24 ? 3 : sort < 40 ? 4 : sort < 48 ? 5 : 6 + random.nextInt(21);
        seen[at]++;
        int t = few(things);
        int f = few(8);
        int s = of(4);
        int set = random.nextInt(3) == 0 ? -1 : of(sets);
        switch (at) {
            case 0 -> tell();
            case 1 -> {
                ask("thing", a -> real.thing(a[0]), a -> model.thing(a[0]), of(4));
                things = model.count(1);
            }
            case 2 -> ask("fact", a -> real.fact(a[0], a[1], a[2]), a -> model.fact(a[0], a[1], a[2]), t, of(4),
                random.nextInt(4) == 0 ? of(10000) : of(4));
            case 3 -> setEvent(t, of(4), someDay());
            case 4 -> ask("copy", a -> real.copy(a[0], a[1], a[2]) ? 1 : 0, a -> model.copy(a[0], a[1], a[2]) ? 1 : 0, t, f, s);
            case 5 -> ask("days", a -> real.days(a[0]), a -> model.days(a[0]),
                random.nextInt(longest) == 0 ? of(1001) : of(longest / 3 + 1));
            case 6 -> ask("copies", a -> real.copies(a[0], a[1]), a -> model.copies(a[0], a[1]), t, f);
            case 7 -> ask("store", a -> swept(a), a -> sweptModel(a), s, 1 + of(random.nextInt(3) == 0 ? 400 : 9),
                of(random.nextInt(3) == 0 ? 400 : 9));
            case 8 -> {
                ask("hold", a -> real.hold(a[0], a[1]), a -> model.hold(a[0], a[1]), t, random.nextBoolean() ? of(256) : 1 << f);
                holds++;
            }
            case 9, 10 -> ask("lift", a -> real.lift(a[0]) ? 1 : 0, a -> model.lift(a[0]) ? 1 : 0, of(holds));
            case 11 -> {
                if (random.nextInt(run % 7 == 0 ? 1 : 40) == 0) {
                    ask("wish", a -> real.wish(a[0]), a -> model.wish(a[0]), t);
                }
            }
            case 12, 13 -> ask("span", a -> real.span(a[0], a[1], a[2], a[3]), a -> model.span(a[0], a[1], a[2], a[3]), t, f, set, of(5));
            case 14 -> ask("lost", a -> real.lost(a[0], a[1], a[2], a[3]), a -> model.lost(a[0], a[1], a[2], a[3]), t, f, set, of(2));
            case 15 -> ask("why", a -> real.why(a[0], a[1]), a -> model.why(a[0], a[1]), t, f);
            case 16 -> ask("places", a -> real.places(a[0], a[1]), a -> model.places(a[0], a[1]), t, f);
            case 17 -> ask("misplaced", a -> real.misplaced(), a -> model.misplaced());
            case 18 -> ask("planned", a -> real.planned(a[0], a[1], a[2]), a -> model.planned(a[0], a[1], a[2]), t, f, s);
            case 19 -> ask("differ", a -> real.differ(a[0], a[1]), a -> model.differ(a[0], a[1]), of(sets), of(sets));
            case 20 -> ask("bites", a -> real.bites(a[0], a[1]) ? 1 : 0, a -> model.bites(a[0], a[1]) ? 1 : 0, of(sets), of(5));
            case 21 -> ask("entry", a -> real.entry(a[0], a[1]), a -> model.entry(a[0], a[1]), of(model.count(4)), of(5));
            case 22 -> ask("count", a -> real.count(a[0]), a -> model.count(a[0]), of(10));
            case 23 -> ask("fault", a -> real.fault(), a -> model.fault());
            case 24 -> ask("day", a -> real.day(a[0], a[1], a[2]), a -> model.day(a[0], a[1], a[2]), 2000 + of(560), of(14), of(34));
            case 25 -> ask("date", a -> real.date(a[0], a[1]), a -> model.date(a[0], a[1]), of(200001), of(3));
            default -> ask("later", a -> real.later(a[0], a[1]), a -> model.later(a[0], a[1]), of(200001), of(random.nextBoolean() ? 119989 : 90));
        }
    }

    private long swept(int[] a) {
        real.store(a[0], a[1], a[2]);
        return 0;
    }

    private long sweptModel(int[] a) {
        model.store(a[0], a[1], a[2]);
        return 0;
    }

    private void tell() {
        byte[] text = Checks.bytes(text());
        told.append("  '").append(new String(text, java.nio.charset.StandardCharsets.ISO_8859_1)).append("'\n");
        for (int i = 0; i < text.length; i += 20) {
            ask("feed", a -> real.feed(a[0], a[1], a[2], a[3], a[4]), a -> model.feed(a[0], a[1], a[2], a[3], a[4]),
                Checks.four(text, i), Checks.four(text, i + 4), Checks.four(text, i + 8), Checks.four(text, i + 12),
                Checks.four(text, i + 16));
        }
        int n = random.nextInt(4) == 0 ? of(model.count(8) + 1) : Math.min(text.length, 1000);
        ask("rules", a -> real.rules(a[0], a[1]), a -> model.rules(a[0], a[1]), n, someDay());
        ask("fault", a -> real.fault(), a -> model.fault());
        sets = model.count(2);
    }

    private String text() {
        StringBuilder text = new StringBuilder();
        int rules = random.nextInt(12) == 0 ? 20 + random.nextInt(8) : random.nextInt(7);
        boolean brief = rules > 7;
        for (int r = 0; r < rules; r++) {
            rule(text, brief);
        }
        if (random.nextInt(3) == 0) {
            spoil(text);
        }
        if (text.length() > 1000) {
            text.setLength(1000);
        }
        return text.toString();
    }

    private void rule(StringBuilder text, boolean brief) {
        String kind = random.nextInt(3) > 0 ? "any" : "k" + random.nextInt(4);
        String field = random.nextInt(2) > 0 ? "all" : "f" + random.nextInt(random.nextBoolean() ? 8 : 3);
        if (random.nextInt(4) == 0) {
            text.append("place ").append(kind).append(' ').append(field);
            int from = random.nextInt(4);
            int many = 1 + random.nextInt(4) + (random.nextInt(30) == 0 ? 1 : 0);
            for (int i = 0; i < many; i++) {
                text.append(" s").append((from + i * (random.nextInt(30) == 0 ? 2 : 1)) % 4);
            }
        } else {
            String unit = new String[] {"days", "days", "months", "years"}[random.nextInt(4)];
            int most = random.nextInt(8) == 0 ? 10100 : unit.equals("days") ? longest + 1 : 6;
            text.append(random.nextBoolean() ? "keep " : "end ").append(kind).append(' ').append(field).append(' ')
                .append(random.nextInt(most)).append(random.nextBoolean() ? " " : "").append(unit)
                .append(random.nextInt(9) == 0 ? "\n" : " ").append("from e").append(random.nextInt(4));
        }
        if (!brief && random.nextInt(3) == 0) {
            tests(text);
        }
        if (random.nextInt(brief ? 6 : 2) == 0) {
            text.append(" rank ").append(random.nextInt(random.nextInt(6) == 0 ? 10010 : 3));
        }
        text.append(random.nextBoolean() ? ";" : " ; ");
    }

    private void tests(StringBuilder text) {
        int many = 1 + random.nextInt(3) + (random.nextInt(6) == 0 ? 2 : 0);
        for (int i = 0; i < many; i++) {
            text.append(i == 0 ? " if a" : " and a").append(random.nextInt(4)).append(random.nextBoolean() ? "=" : " < ")
                .append(random.nextInt(random.nextInt(9) == 0 ? 10100 : 4));
        }
    }

    /** Changes, cuts or adds some bytes or words. */
    private void spoil(StringBuilder text) {
        String[] words = {"keep", "end", "place", "any", "all", "k1", "f3", "f9", "s0", "e0", "a0", "if", "and", "rank", ";",
            "=", "<", "7", "12345", "days", "months", "years", "from", "x", "K", "#", "\u00ff", "\0", "\t", "00000"};
        int at = random.nextInt(text.length() + 1);
        switch (random.nextInt(4)) {
            case 0 -> text.setLength(at);
            case 1 -> text.insert(at, (random.nextBoolean() ? " " : "") + words[random.nextInt(words.length)]
                + (random.nextBoolean() ? " " : ""));
            case 2 -> text.append(' ').append(words[random.nextInt(words.length)]);
            default -> {
                if (at < text.length()) {
                    text.deleteCharAt(at);
                }
            }
        }
    }
}
