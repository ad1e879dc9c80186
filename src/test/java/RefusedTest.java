/**
 * EXCEPTIONS: which of several exceptions a call throws, and that a call that throws one changes nothing: what all
 * other methods answer is compared with an object on which the call was not made.
 */
final class RefusedTest {
    private static final int[] NO_PLOTS = {Integer.MIN_VALUE, -1, 24, Integer.MAX_VALUE};
    private static final int[] NO_FAMILIES = {Integer.MIN_VALUE, -1, 10, Integer.MAX_VALUE};
    private static final int[] NO_ROWS = {Integer.MIN_VALUE, -1, 4, Integer.MAX_VALUE};
    private static final int[] NO_SLOTS = {Integer.MIN_VALUE, -1, 2, Integer.MAX_VALUE};

    private static final Due due = new Due();
    private static final Twin rich = new Twin(due, Grounds::rich);
    private static final Twin ended = new Twin(due, RefusedTest::ended);
    private static final Twin waited = new Twin(due, () -> Grounds.waited(12));
    private static final Twin fresh = new Twin(due, PlotLeases::new);
    private static final Twin fullText = new Twin(due, () -> Grounds.withText("run,1;".repeat(20)));

    public static void main(String[] args) {
        due.says("A call that throws an exception changes nothing.",
                "IndexOutOfBoundsException means that a plot, a family or a row does not exist, or that a save slot is not 0"
                + " or 1.");
        noSuchPlot();
        noSuchFamily();
        noSuchRowOrSlot();
        due.says("IllegalArgumentException means that another argument is out of its range.");
        outOfRange();
        outOfRangeWhat();
        outOfRangeScripts();
        due.says("IllegalStateException means what the method says.");
        plotsNotAsTheyMust();
        nothingThere();
        firstNamed();
        due.end();
    }

    /** Plot 0 can be cleared, 1 rests, 2 is in dispute and lapsed, 3 is full, 23 is let; all others are free. */
    private static PlotLeases ended() {
        PlotLeases x = Grounds.withText("let,1,1;");
        for (int p = 0; p < 4; p++) {
            x.let(p, p);
            x.bury(p);
        }
        x.claim(2, 9);
        x.run(12);
        x.bury(1);
        x.renew(3, 90);
        x.bury(3);
        x.let(9, 23);
        x.save(0);
        x.run(21);
        x.set(1, 50);
        x.renew(0, 1);
        x.set(1, 22);
        return x;
    }

    private static void noSuchPlot() {
        for (int p : NO_PLOTS) {
            rich.refuses("plot(" + p + ", 0)", Due.INDEX, x -> x.plot(p, 0));
            rich.refuses("burial(" + p + ", 0)", Due.INDEX, x -> x.burial(p, 0));
            rich.refuses("line(" + p + ", 0)", Due.INDEX, x -> x.line(p, 0));
            rich.refuses("let(0, " + p + ")", Due.INDEX, x -> x.let(0, p));
            rich.refuses("bury(" + p + ")", Due.INDEX, x -> x.bury(p));
            rich.refuses("renew(" + p + ", 1)", Due.INDEX, x -> x.renew(p, 1));
            rich.refuses("claim(" + p + ", 0)", Due.INDEX, x -> x.claim(p, 0));
            rich.refuses("settle(" + p + ", true)", Due.INDEX, x -> x.settle(p, true));
            rich.refuses("settle(" + p + ", false)", Due.INDEX, x -> x.settle(p, false));
            rich.refuses("clear(" + p + ")", Due.INDEX, x -> x.clear(p));
            rich.refuses("clearFrom(" + p + ")", Due.INDEX, x -> x.clearFrom(p));
        }
    }

    private static void noSuchFamily() {
        for (int f : NO_FAMILIES) {
            rich.refuses("family(" + f + ", 0)", Due.INDEX, x -> x.family(f, 0));
            rich.refuses("ask(" + f + ")", Due.INDEX, x -> x.ask(f));
            ended.refuses("ask(" + f + ") with free plots", Due.INDEX, x -> x.ask(f));
            ended.refuses("let(" + f + ", 5), a free plot", Due.INDEX, x -> x.let(f, 5));
            rich.refuses("claim(5, " + f + ")", Due.INDEX, x -> x.claim(5, f));
            rich.refuses("plotFor(" + f + ")", Due.INDEX, x -> x.plotFor(f));
            rich.refuses("whenFor(" + f + ")", Due.INDEX, x -> x.whenFor(f));
        }
    }

    private static void noSuchRowOrSlot() {
        for (int row : NO_ROWS) {
            rich.refuses("depth(" + row + ")", Due.INDEX, x -> x.depth(row));
            rich.refuses("dig(" + row + ", 1)", Due.INDEX, x -> x.dig(row, 1));
        }
        for (int slot : NO_SLOTS) {
            rich.refuses("save(" + slot + ")", Due.INDEX, x -> x.save(slot));
            rich.refuses("restore(" + slot + ")", Due.INDEX, x -> x.restore(slot));
        }
    }

    private static void outOfRange() {
        int[] characters = {Integer.MIN_VALUE, -1, 256, Integer.MAX_VALUE};
        for (int c : characters) {
            rich.refuses("append(" + c + ")", Due.ARGUMENT, x -> x.append(c));
        }
        int[] years = {Integer.MIN_VALUE, -1, 0, 100, Integer.MAX_VALUE};
        for (int n : years) {
            rich.refuses("renew(5, " + n + ")", Due.ARGUMENT, x -> x.renew(5, n));
            rich.refuses("run(" + n + ")", Due.ARGUMENT, x -> x.run(n));
        }
        int[] depths = {Integer.MIN_VALUE, -1, 0, 4, Integer.MAX_VALUE};
        for (int depth : depths) {
            rich.refuses("dig(1, " + depth + ")", Due.ARGUMENT, x -> x.dig(1, depth));
        }
        int[] lowest = {1, 1, 0, 0, 0};
        int[] highest = {99, 60, 99, 99, 99};
        for (int i = 0; i < 5; i++) {
            int what = i;
            rich.refuses("set below", Due.ARGUMENT, x -> x.set(what, lowest[what] - 1));
            rich.refuses("set above", Due.ARGUMENT, x -> x.set(what, highest[what] + 1));
        }
    }

    private static void outOfRangeWhat() {
        rich.refuses("about(-1)", Due.ARGUMENT, x -> x.about(-1));
        rich.refuses("about(10)", Due.ARGUMENT, x -> x.about(10));
        rich.refuses("plot(0, -1)", Due.ARGUMENT, x -> x.plot(0, -1));
        rich.refuses("plot(0, 6)", Due.ARGUMENT, x -> x.plot(0, 6));
        rich.refuses("burial(0, -1)", Due.ARGUMENT, x -> x.burial(0, -1));
        rich.refuses("family(9, -1)", Due.ARGUMENT, x -> x.family(9, -1));
        rich.refuses("family(9, 6)", Due.ARGUMENT, x -> x.family(9, 6));
        rich.refuses("waiting(-1)", Due.ARGUMENT, x -> x.waiting(-1));
        rich.refuses("line(0, -1)", Due.ARGUMENT, x -> x.line(0, -1));
        rich.refuses("setting(-1)", Due.ARGUMENT, x -> x.setting(-1));
        rich.refuses("setting(5)", Due.ARGUMENT, x -> x.setting(5));
        rich.refuses("set(-1, 9)", Due.ARGUMENT, x -> x.set(-1, 9));
        rich.refuses("set(5, 9)", Due.ARGUMENT, x -> x.set(5, 9));
        rich.refuses("coming(0, 0)", Due.ARGUMENT, x -> x.coming(0, 0));
        rich.refuses("coming(201, 0)", Due.ARGUMENT, x -> x.coming(201, 0));
        rich.refuses("coming(1, -1)", Due.ARGUMENT, x -> x.coming(1, -1));
        rich.refuses("coming(1, 4)", Due.ARGUMENT, x -> x.coming(1, 4));
    }

    private static void outOfRangeScripts() {
        rich.refuses("runScript(0, 1000)", Due.ARGUMENT, x -> x.runScript(0, 1000));
        rich.refuses("runScript(4, 1000)", Due.ARGUMENT, x -> x.runScript(4, 1000));
        rich.refuses("runScript(1, -1)", Due.ARGUMENT, x -> x.runScript(1, -1));
        rich.refuses("runScript(1, 10000)", Due.ARGUMENT, x -> x.runScript(1, 10000));
        rich.refuses("simulate(1, 0)", Due.ARGUMENT, x -> x.simulate(1, 0));
        rich.refuses("simulate(1, 61)", Due.ARGUMENT, x -> x.simulate(1, 61));
    }

    private static void plotsNotAsTheyMust() {
        waited.refuses("ask of a full ground", Due.STATE, x -> x.ask(0));
        rich.refuses("let of one that is let", Due.STATE, x -> x.let(9, 5));
        ended.refuses("bury in a free one", Due.STATE, x -> x.bury(5));
        ended.refuses("bury in a lapsed one", Due.STATE, x -> x.bury(0));
        rich.refuses("bury in dispute", Due.STATE, x -> x.bury(3));
        rich.refuses("bury in a full one", Due.STATE, x -> x.bury(0));
        ended.refuses("renew of a free one", Due.STATE, x -> x.renew(5, 1));
        ended.refuses("renew in dispute", Due.STATE, x -> x.renew(2, 1));
        ended.refuses("claim of a free one", Due.STATE, x -> x.claim(5, 1));
        rich.refuses("claim by its family", Due.STATE, x -> x.claim(6, 2));
        rich.refuses("claim in dispute", Due.STATE, x -> x.claim(3, 5));
        ended.refuses("settle of a free one", Due.STATE, x -> x.settle(5, true));
        rich.refuses("settle without a dispute, won", Due.STATE, x -> x.settle(6, true));
        rich.refuses("settle without a dispute, lost", Due.STATE, x -> x.settle(6, false));
        ended.refuses("clear of a free one", Due.STATE, x -> x.clear(5));
        ended.refuses("clear of one that is let", Due.STATE, x -> x.clear(23));
        ended.refuses("clear of one that rests", Due.STATE, x -> x.clear(1));
        ended.refuses("clear of one in dispute", Due.STATE, x -> x.clear(2));
        due.same("as they were: 0, 1, 2, 3, 5 and 23", "432101", states(ended()));
    }

    private static String states(PlotLeases x) {
        StringBuilder states = new StringBuilder();
        int[] plots = {0, 1, 2, 3, 5, 23};
        for (int p : plots) {
            states.append(x.plot(p, 5));
        }
        return states.toString();
    }

    private static void nothingThere() {
        fresh.refuses("undo of nothing", Due.STATE, x -> x.undo());
        fresh.refuses("restore(0) of nothing", Due.STATE, x -> x.restore(0));
        fresh.refuses("restore(1) of nothing", Due.STATE, x -> x.restore(1));
        rich.refuses("restore(0) when 1 is saved", Due.STATE, x -> x.restore(0));
        ended.refuses("restore(1) when 0 is saved", Due.STATE, x -> x.restore(1));
        fresh.refuses("load of no text", Due.STATE, x -> x.load());
        ended.refuses("load of no ground", Due.STATE, x -> x.load());
        fullText.refuses("append to 120", Due.STATE, x -> x.append('1'));
        fullText.refuses("append(0) to 120", Due.STATE, x -> x.append(0));
        fullText.refuses("load of a full text that is no ground", Due.STATE, x -> x.load());
    }

    private static void firstNamed() {
        due.says("If several exceptions apply to a call, the one that its description names first is thrown.");
        fullText.refuses("append(256) to 120", Due.ARGUMENT, x -> x.append(256));
        fullText.refuses("append(-1) to 120", Due.ARGUMENT, x -> x.append(-1));
        rich.refuses("plot(24, 6)", Due.INDEX, x -> x.plot(24, 6));
        rich.refuses("burial(24, -1)", Due.INDEX, x -> x.burial(24, -1));
        rich.refuses("family(10, 6)", Due.INDEX, x -> x.family(10, 6));
        rich.refuses("line(24, -1)", Due.INDEX, x -> x.line(24, -1));
        waited.refuses("ask(10) of a full ground", Due.INDEX, x -> x.ask(10));
        rich.refuses("let(10, 5), which is let", Due.INDEX, x -> x.let(10, 5));
        rich.refuses("renew(24, 100)", Due.INDEX, x -> x.renew(24, 100));
        ended.refuses("renew(5, 100), which is free", Due.ARGUMENT, x -> x.renew(5, 100));
        ended.refuses("renew(2, 0) in dispute", Due.ARGUMENT, x -> x.renew(2, 0));
        ended.refuses("claim(5, 10), which is free", Due.INDEX, x -> x.claim(5, 10));
        rich.refuses("claim(3, 10) in dispute", Due.INDEX, x -> x.claim(3, 10));
        rich.refuses("dig(4, 4)", Due.INDEX, x -> x.dig(4, 4));
        fresh.refuses("restore(2) of nothing", Due.INDEX, x -> x.restore(2));
        fresh.refuses("restore(-1) of nothing", Due.INDEX, x -> x.restore(-1));
        rich.refuses("coming(0, 4)", Due.ARGUMENT, x -> x.coming(0, 4));
        rich.refuses("runScript(4, -1)", Due.ARGUMENT, x -> x.runScript(4, -1));
    }
}
