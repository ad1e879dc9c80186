/** Promises 1 and 6 to 13: a new object, about, plot, burial, family, waiting, line, depth, setting. */
final class ReadingTest {
    private static final Due due = new Due();

    public static void main(String[] args) {
        newObject();
        wrongInputs();
        states();
        plotsAndFamilies();
        waiters();
        lines();
        due.end();
    }

    private static void newObject() {
        PlotLeases x = new PlotLeases();
        for (int what = 0; what < 10; what++) {
            due.is("about(" + what + ")", what == 1 ? 24 : 0, x.about(what));
        }
        for (int p = 0; p < 24; p++) {
            due.is("family of " + p, -1, x.plot(p, 0));
            due.is("last year of " + p, -1, x.plot(p, 1));
            due.is("burials of " + p, 0, x.plot(p, 2));
            due.is("latest burial of " + p, -1, x.plot(p, 3));
            due.is("claimant of " + p, -1, x.plot(p, 4));
            due.is("state of " + p, 0, x.plot(p, 5));
            due.is("burial(" + p + ", 0)", -1, x.burial(p, 0));
            due.registerIs(x, p, "p" + p + " free");
        }
        for (int f = 0; f < 10; f++) {
            for (int what = 0; what < 6; what++) {
                due.is("family(" + f + ", " + what + ")", what == 3 ? -1 : 0, x.family(f, what));
            }
        }
        due.is("waiting(0)", -1, x.waiting(0));
        int[] settings = {30, 20, 2, 10, 5};
        for (int what = 0; what < 5; what++) {
            due.is("setting " + what, settings[what], x.setting(what));
        }
        for (int row = 0; row < 4; row++) {
            due.is("depth " + row, 2, x.depth(row));
        }
        due.is("errorPosition", 0, x.errorPosition());
        due.thrown("undo", Due.STATE, () -> x.undo());
        due.thrown("restore", Due.STATE, () -> x.restore(0));
    }

    private static void wrongInputs() {
        PlotLeases x = new PlotLeases();
        int[] extremes = {Integer.MIN_VALUE, -1, 24, Integer.MAX_VALUE};
        for (int p : extremes) {
            due.thrown("plot", Due.INDEX, () -> x.plot(p, 0));
            due.thrown("plot, both wrong", Due.INDEX, () -> x.plot(p, 6));
            due.thrown("burial", Due.INDEX, () -> x.burial(p, 0));
            due.thrown("burial, both wrong", Due.INDEX, () -> x.burial(p, -1));
            due.thrown("line", Due.INDEX, () -> x.line(p, 0));
            due.thrown("line, both wrong", Due.INDEX, () -> x.line(p, -1));
            due.thrown("about", Due.ARGUMENT, () -> x.about(p));
            due.thrown("family", Due.INDEX, () -> x.family(p, 0));
            due.thrown("family, both wrong", Due.INDEX, () -> x.family(p, 6));
            due.thrown("depth", Due.INDEX, () -> x.depth(p));
            due.thrown("setting", Due.ARGUMENT, () -> x.setting(p));
            due.thrown("plot, what", Due.ARGUMENT, () -> x.plot(0, p));
            due.thrown("family, what", Due.ARGUMENT, () -> x.family(0, p));
        }
        due.thrown("about(10)", Due.ARGUMENT, () -> x.about(10));
        due.thrown("plot(23, 6)", Due.ARGUMENT, () -> x.plot(23, 6));
        due.thrown("family(10, 0)", Due.INDEX, () -> x.family(10, 0));
        due.thrown("family(9, 6)", Due.ARGUMENT, () -> x.family(9, 6));
        due.thrown("depth(4)", Due.INDEX, () -> x.depth(4));
        due.thrown("setting(5)", Due.ARGUMENT, () -> x.setting(5));
        due.thrown("burial(0, -1)", Due.ARGUMENT, () -> x.burial(0, -1));
        due.thrown("line(0, -1)", Due.ARGUMENT, () -> x.line(0, -1));
        due.thrown("waiting(-1)", Due.ARGUMENT, () -> x.waiting(-1));
        due.thrown("waiting(MIN)", Due.ARGUMENT, () -> x.waiting(Integer.MIN_VALUE));
        due.is("waiting(MAX)", -1, x.waiting(Integer.MAX_VALUE));
        due.is("burial(0, MAX)", -1, x.burial(0, Integer.MAX_VALUE));
        due.is("line(0, MAX)", -1, x.line(0, Integer.MAX_VALUE));
    }

    /** A lease of 3 years, a rest of 10: let in year 0, lapsed from 3 on, at rest until 9. */
    private static void states() {
        PlotLeases x = new PlotLeases();
        x.set(0, 3);
        x.set(1, 2);
        x.let(0, 0);
        x.bury(0);
        x.let(1, 1);
        x.bury(1);
        x.claim(1, 0);
        x.let(2, 2);
        x.claim(2, 0);
        x.let(3, 3);
        x.set(1, 10);
        x.run(2);
        int[] inLease = {1, 1, 1, 1, 0};
        statesAre(x, inLease);
        due.is("lapsed in year 2", 0, x.about(2));
        x.run(1);
        int[] lapsed = {3, 2, 2, 0, 0};
        statesAre(x, lapsed);
        due.is("lapsed in year 3", 3, x.about(2));
        due.is("clearable in year 3", 0, x.about(3));
        due.is("in dispute in year 3", 2, x.about(4));
        due.is("free in year 3", 21, x.about(1));
        x.settle(2, false);
        x.settle(1, true);
        due.is("at rest when settled", 3, x.plot(1, 5));
        due.is("without burials: no rest", 4, x.plot(2, 5));
        due.is("clearable then", 1, x.about(3));
        x.run(6);
        due.is("at rest in year 9", 3, x.plot(0, 5));
        due.is("freed in year 4", 0, x.plot(2, 5));
        x.run(1);
        due.is("no rest in year 10", 4, x.plot(0, 5));
        due.is("clearable in year 10", 2, x.about(3));
        due.is("lapsed in year 10", 2, x.about(2));
        x.set(4, 7);
        x.clear(0);
        due.is("the ossuary", 1, x.about(7));
        due.is("burials in plots", 1, x.about(6));
        due.is("paid by the town", 7, x.about(9));
        due.is("paid by families", 4 * 3 * 2 + 2 * 10, x.about(8));
        due.is("the year", 10, x.about(0));
    }

    private static void statesAre(PlotLeases x, int[] want) {
        for (int p = 0; p < want.length; p++) {
            due.is("state of " + p + " in year " + x.about(0), want[p], x.plot(p, 5));
        }
    }

    private static void plotsAndFamilies() {
        PlotLeases x = new PlotLeases();
        x.dig(3, 3);
        x.let(4, 23);
        x.run(2);
        x.bury(23);
        x.bury(23);
        x.run(9);
        x.bury(23);
        x.let(4, 0);
        x.claim(0, 7);
        x.let(7, 1);
        x.claim(1, 4);
        x.let(4, 2);
        x.bury(2);
        due.is("family of 23", 4, x.plot(23, 0));
        due.is("last year of 23", 31, x.plot(23, 1));
        due.is("burials of 23", 3, x.plot(23, 2));
        due.is("latest burial of 23", 11, x.plot(23, 3));
        due.is("claimant of 23", -1, x.plot(23, 4));
        due.is("claimant of 0", 7, x.plot(0, 4));
        due.is("burials of 0", 0, x.plot(0, 2));
        due.is("latest burial of 0", -1, x.plot(0, 3));
        int[] years = {2, 2, 11, -1, -1};
        for (int k = 0; k < years.length; k++) {
            due.is("burial(23, " + k + ")", years[k], x.burial(23, k));
        }
        due.is("plots of 4", 3, x.family(4, 0));
        due.is("burials of 4", 4, x.family(4, 1));
        due.is("claims of 4", 1, x.family(4, 4));
        due.is("claims of 1", 0, x.family(1, 4));
        PlotLeases ends = Due.loaded("let,9,0;bury,0;bury,0;let,9,23;bury,23");
        due.is("burials of 9, in the first plot and the last", 3, ends.family(9, 1));
        due.is("claims of 7", 1, x.family(7, 4));
        due.is("paid by 4: three leases, four burials, two years more", 3 * 60 + 4 * 10 + 2 * 2, x.family(4, 5));
        due.is("paid by 7", 60, x.family(7, 5));
        due.is("paid by 0", 0, x.family(0, 5));
        due.is("paid by all", 284, x.about(8));
    }

    private static void waiters() {
        PlotLeases x = new PlotLeases();
        for (int i = 0; i < 24; i++) {
            x.ask(0);
        }
        int[] asking = {5, 9, 5, 1};
        for (int f : asking) {
            x.ask(f);
        }
        due.is("those who wait", 4, x.about(5));
        for (int k = 0; k < 4; k++) {
            due.is("waiting(" + k + ")", asking[k], x.waiting(k));
        }
        due.is("waiting(4)", -1, x.waiting(4));
        due.is("how often 5 waits", 2, x.family(5, 2));
        due.is("ahead of 5", 0, x.family(5, 3));
        due.is("ahead of 9", 1, x.family(9, 3));
        due.is("ahead of 1", 3, x.family(1, 3));
        due.is("ahead of 2", -1, x.family(2, 3));
        due.is("how often 2 waits", 0, x.family(2, 2));
        due.is("who waits pays nothing", 0, x.family(5, 5));
    }

    private static void lines() {
        PlotLeases x = new PlotLeases();
        due.registerIs(x, 0, "p0 free");
        due.is("line(0, 6)", 'e', x.line(0, 6));
        due.is("line(0, 7)", -1, x.line(0, 7));
        x.let(9, 23);
        x.dig(3, 3);
        due.registerIs(x, 23, "p23 f9 0/3 29");
        x.run(12);
        x.bury(23);
        x.dig(3, 1);
        due.registerIs(x, 23, "p23 f9 1/1 32");
        x.claim(23, 4);
        due.registerIs(x, 23, "p23 f9 1/1 32?4");
        x.run(20);
        due.registerIs(x, 23, "p23 f9 1/1 32?4");
        x.run(1);
        due.registerIs(x, 23, "p23 f9 1/1 32!?4");
        x.settle(23, true);
        due.registerIs(x, 23, "p23 f4 1/1 32!");
        x.renew(23, 99);
        due.registerIs(x, 23, "p23 f4 1/1 131");
        due.registerIs(x, 10, "p10 free");
    }
}
