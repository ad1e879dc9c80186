import java.util.Random;

/** Runs of calls that a fixed seed chooses, each answer compared with that of the plain model. */
final class ModelTest {
    private static final int MOST_CALLS = 512;
    private static final int MOST_CALLS_OF_STEPS = 150;

    private static final Due due = new Due();

    private final Random random;
    private final PlotLeases x = new PlotLeases();
    private final Model model = new Model();
    private int calls;

    private ModelTest(long seed) {
        random = new Random(seed);
    }

    public static void main(String[] args) {
        for (long seed = 0; seed < 8000; seed++) {
            new ModelTest(seed).play();
        }
        for (long seed = 0; seed < 4000; seed++) {
            new ModelTest(seed).comparedText();
        }
        due.end();
    }

    private int below(int n) {
        return random.nextInt(n);
    }

    private void same(String call, Due.Call ours, Due.Call theirs) {
        calls++;
        long want;
        try {
            want = theirs.answer();
        } catch (IllegalStateException e) {
            due.thrown(call, Due.STATE, ours);
            return;
        }
        due.is(call, want, answered(ours));
    }

    private static long answered(Due.Call call) {
        try {
            return call.answer();
        } catch (IllegalStateException e) {
            return Long.MIN_VALUE;
        }
    }

    private void play() {
        int style = below(4);
        if (style == 1) {
            shortYears();
        }
        if (style > 1) {
            crowd();
        }
        int enough = below(MOST_CALLS_OF_STEPS);
        while (calls < enough) {
            step();
        }
        compare();
        forecasts();
        due.truth("no object is asked too often", calls <= MOST_CALLS);
    }

    private void set(int what, int v) {
        same("set", () -> x.set(what, v), () -> model.act(s -> s.set(what, v)));
    }

    private void shortYears() {
        set(0, 1 + below(4));
        set(1, 1 + below(4));
    }

    private void crowd() {
        for (int p = 0; p < 24; p++) {
            int f = below(10);
            int plot = p;
            same("let", () -> x.let(f, plot), () -> model.act(s -> s.let(f, plot)));
        }
    }

    private void step() {
        int p = below(24);
        int f = below(10);
        int kind = below(40);
        if (kind < 9) {
            same("ask", () -> x.ask(f), () -> model.act(s -> s.ask(f)));
        } else if (kind < 11) {
            same("let", () -> x.let(f, p), () -> model.act(s -> s.let(f, p)));
        } else if (kind < 18) {
            same("bury", () -> x.bury(p), () -> model.act(s -> s.bury(p)));
        } else if (kind < 20) {
            int years = 1 + below(below(4) == 0 ? 99 : 9);
            same("renew", () -> x.renew(p, years), () -> model.act(s -> s.renew(p, years)));
        } else if (kind < 23) {
            same("claim", () -> x.claim(p, f), () -> model.act(s -> s.claim(p, f)));
        } else if (kind < 26) {
            boolean wins = random.nextBoolean();
            same("settle", () -> x.settle(p, wins), () -> model.act(s -> s.settle(p, wins)));
        } else if (kind < 30) {
            same("clear", () -> x.clear(p), () -> model.act(s -> s.clear(p)));
        } else if (kind < 31) {
            int depth = 1 + below(3);
            same("dig", () -> x.dig(p / 6, depth), () -> model.act(s -> s.dig(p / 6, depth)));
        } else if (kind < 36) {
            int years = 1 + below(below(8) == 0 ? 99 : 12);
            same("run", () -> x.run(years), () -> model.act(s -> s.run(years)));
        } else {
            rareStep(kind);
        }
    }

    private void rareStep(int kind) {
        int slot = below(2);
        if (kind == 36) {
            int[] lowest = {1, 1, 0, 0, 0};
            int[] highest = {99, 60, 99, 99, 99};
            int what = below(5);
            set(what, lowest[what] + below(highest[what] - lowest[what] + 1));
        } else if (kind == 37) {
            int times = 1 + below(4);
            for (int i = 0; i < times; i++) {
                same("undo", x::undo, model::undo);
            }
        } else if (kind == 38) {
            same("save", () -> x.save(slot), () -> model.save(slot));
        } else if (below(4) == 0) {
            write(ground(below(2) == 0 ? 0 : 1 + below(3)));
            same("load", x::load, model::load);
        } else {
            same("restore", () -> x.restore(slot), () -> model.restore(slot));
        }
    }

    /** What there is: of plots and families only some, so that the calls are not too many. */
    private void compare() {
        for (int i = 0; i < 10; i++) {
            int what = i;
            same("about " + i, () -> x.about(what), () -> model.now.about(what));
        }
        int p = below(24);
        for (int i = 0; i < 8; i++) {
            comparePlot((p + 5 * i) % 24);
        }
        for (int i = 0; i < 3; i++) {
            int q = below(24);
            due.registerIs(x, q, model.now.register(q));
            calls += 1 + model.now.register(q).length();
        }
        int family = below(10);
        for (int i = 0; i < 24; i++) {
            int f = (family + i / 6) % 10;
            int what = i % 6;
            same("family " + f + " " + what, () -> x.family(f, what), () -> model.now.family(f, what));
        }
        for (int i = 0; i < 14; i++) {
            int k = i;
            int want = k < model.now.queue.size() ? model.now.queue.get(k) : -1;
            same("waiting " + k, () -> x.waiting(k), () -> want);
        }
        for (int i = 0; i < 4; i++) {
            int row = i;
            same("depth " + row, () -> x.depth(row), () -> model.now.depths[row]);
        }
        for (int i = 0; i < 5; i++) {
            int what = i;
            same("setting " + what, () -> x.setting(what), () -> model.now.settings[what]);
        }
    }

    private void comparePlot(int p) {
        Model.Grave grave = model.now.graves.get(p);
        int[] numbers = {grave.family, grave.last, grave.burials.size(), model.now.latest(p), grave.claimant,
            model.now.state(p)};
        for (int i = 0; i < 6; i++) {
            int what = i;
            same("plot " + p + " " + what, () -> x.plot(p, what), () -> numbers[what]);
        }
        for (int i = 0; i < 4; i++) {
            int k = i;
            int want = k < grave.burials.size() ? grave.burials.get(k) : -1;
            same("burial " + p + " " + k, () -> x.burial(p, k), () -> want);
        }
    }

    private void forecasts() {
        for (int i = 0; i < 10; i++) {
            int f = i;
            same("plotFor", () -> x.plotFor(f), () -> model.now.bestFor(f));
        }
        for (int i = 0; i < 24; i++) {
            int p = i;
            same("clearFrom", () -> x.clearFrom(p), () -> model.now.clearFrom(p));
        }
        int f = below(10);
        same("whenFor", () -> x.whenFor(f), () -> model.now.whenFor(f));
        int years = 1 + below(below(3) == 0 ? 200 : 30);
        for (int i = 0; i < 4; i++) {
            int what = i;
            same("coming", () -> x.coming(years, what), () -> model.now.coming(years, what));
        }
        for (int i = 0; i < 8; i++) {
            int n = 1 + below(3);
            long script = script(n);
            same("runScript " + script, () -> x.runScript(n, script), () -> model.now.runScript(n, script));
        }
        long seed = random.nextLong();
        int turns = 1 + below(60);
        same("simulate", () -> x.simulate(seed, turns), () -> model.now.simulate(seed, turns));
    }

    private long script(int n) {
        long script = 0;
        for (int i = 0; i < n; i++) {
            int group = 1000 * below(10) + 100 * below(10) + below(26);
            if (below(3) > 0) {
                int kind = 1 + below(9);
                int digit = kind == 1 || kind == 2 || kind == 5 || kind > 6 && kind < 9 ? below(kind == 8 ? 5 : 10) : 0;
                group = 1000 * kind + 100 * digit + (kind == 1 ? 0 : below(24));
            }
            script = script * 10000 + group;
        }
        return script;
    }

    private void write(String text) {
        Grounds.write(x, text);
        calls += 1 + text.length();
        model.text = text;
    }

    /** A ground with so many faults. */
    private String ground(int faults) {
        StringBuilder text = new StringBuilder();
        int commands = 1 + below(13);
        for (int i = 0; i < commands; i++) {
            String[] words = {"ask," + below(10), "let," + below(10) + "," + below(24), "bury," + below(24),
                "run," + (1 + below(99)), "dig," + below(4) + "," + (1 + below(3))};
            text.append(i == 0 ? "" : ";").append(words[below(5)]);
        }
        for (int i = 0; i < faults; i++) {
            int at = below(text.length());
            String signs = "0123456789,;askletburyrundig ";
            char sign = signs.charAt(below(signs.length()));
            switch (below(4)) {
                case 0 -> text.setLength(at + 1);
                case 1 -> text.insert(at, sign);
                case 2 -> text.deleteCharAt(at).append(sign);
                default -> text.setCharAt(at, sign);
            }
        }
        return text.length() > 120 ? text.substring(0, 120) : text.toString();
    }

    private void comparedText() {
        write(ground(below(4)));
        same("errorPosition of " + model.text, x::errorPosition, model::errorPosition);
        same("load of " + model.text, x::load, model::load);
        due.is("the year of it", model.now.year, x.about(0));
        due.is("paid in it", model.now.about(8), x.about(8));
    }
}
