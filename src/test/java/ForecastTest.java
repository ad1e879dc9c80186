/** Promises 25 to 28: plotFor, clearFrom, coming, whenFor. */
final class ForecastTest {
    private static final Due due = new Due();

    public static void main(String[] args) {
        plotFor();
        clearFrom();
        coming();
        whenForNow();
        whenForLater();
        whenForNever();
        nothingIsChanged();
        due.end();
    }

    private static void plotFor() {
        PlotLeases x = new PlotLeases();
        due.thrown("plotFor(10)", Due.INDEX, () -> x.plotFor(10));
        due.thrown("plotFor(-1)", Due.INDEX, () -> x.plotFor(-1));
        due.is("without plots", 0, x.plotFor(0));
        x.let(0, 21);
        due.is("near 21", 15, x.plotFor(0));
        x.let(1, 15);
        due.is("near 21, 15 is let", 20, x.plotFor(0));
        x.let(1, 20);
        due.is("near 21, 20 is let", 22, x.plotFor(0));
        x.let(1, 22);
        due.is("at way 2", 9, x.plotFor(0));
        due.is("of other families", 0, x.plotFor(5));
        due.is("none", -1, Due.full().plotFor(9));
        x.let(0, 0);
        x.claim(0, 5);
        x.run(30);
        due.is("a lapsed plot counts", 1, x.plotFor(0));
        due.is("a claimed one does not count for the claimant", 1, x.plotFor(5));
        PlotLeases y = new PlotLeases();
        y.let(0, 0);
        y.let(1, 1);
        due.is("near plot 0", 6, y.plotFor(0));
        y.let(1, 6);
        due.is("at way 2 of plot 0", 2, y.plotFor(0));
    }

    private static void clearFrom() {
        PlotLeases x = new PlotLeases();
        due.thrown("clearFrom(24)", Due.INDEX, () -> x.clearFrom(24));
        due.thrown("clearFrom(-1)", Due.INDEX, () -> x.clearFrom(-1));
        due.is("free", -1, x.clearFrom(0));
        x.let(0, 0);
        due.is("without burials", 30, x.clearFrom(0));
        x.run(25);
        x.bury(0);
        due.is("the last year became 45", 46, x.clearFrom(0));
        x.set(1, 60);
        due.is("a longer rest", 85, x.clearFrom(0));
        x.claim(0, 1);
        due.is("disputes do not matter", 85, x.clearFrom(0));
        x.run(60);
        due.is("now", 85, x.clearFrom(0));
        x.run(5);
        due.is("now, not 85", 90, x.clearFrom(0));
        x.settle(0, false);
        due.is("renewed", 145, x.renew(0, 99) + 1);
        due.is("when it is renewed", 145, x.clearFrom(0));
    }

    private static void coming() {
        PlotLeases x = new PlotLeases();
        due.thrown("coming(0, 0)", Due.ARGUMENT, () -> x.coming(0, 0));
        due.thrown("coming(201, 0)", Due.ARGUMENT, () -> x.coming(201, 0));
        due.thrown("coming(1, -1)", Due.ARGUMENT, () -> x.coming(1, -1));
        due.thrown("coming(1, 4)", Due.ARGUMENT, () -> x.coming(1, 4));
        due.is("coming(200, 0)", 24, x.coming(200, 0));
        due.is("coming(1, 0)", 24, x.coming(1, 0));
        PlotLeases y = Due.full();
        y.bury(0);
        y.bury(1);
        y.claim(1, 9);
        y.set(1, 40);
        y.renew(23, 99);
        y.ask(9);
        int[] in29 = {0, 0, 0, 1};
        int[] in30 = {20, 2, 0, 0};
        int[] in40 = {20, 2, 1, 0};
        int[] in200 = {22, 2, 1, 0};
        for (int what = 0; what < 4; what++) {
            due.is("in 29 years: " + what, in29[what], y.coming(29, what));
            due.is("in 30 years: " + what, in30[what], y.coming(30, what));
            due.is("in 39 years: " + what, in30[what], y.coming(39, what));
            due.is("in 40 years: " + what, in40[what], y.coming(40, what));
            due.is("in 200 years: " + what, in200[what], y.coming(200, what));
        }
    }

    private static void whenForNow() {
        PlotLeases x = new PlotLeases();
        due.thrown("whenFor(10)", Due.INDEX, () -> x.whenFor(10));
        due.thrown("whenFor(-1)", Due.INDEX, () -> x.whenFor(-1));
        x.run(5);
        due.is("a free plot", 5, x.whenFor(0));
        PlotLeases y = Due.full();
        y.ask(9);
        for (int p = 0; p < 24; p++) {
            y.bury(p);
            y.renew(p, p < 2 ? 0 + 1 : 99);
        }
        y.run(31);
        due.is("the first one who waits, by a clearing", 31, y.whenFor(9));
        due.is("the next one, by the other clearing", 31, y.whenFor(8));
        y.ask(8);
        due.is("a third one", 61, y.whenFor(7));
        due.is("8, which waits already", 31, y.whenFor(8));
        y.clear(0);
        due.is("who asks now gets it, whoever waits", 31, y.whenFor(7));
    }

    private static void whenForLater() {
        PlotLeases x = Due.full();
        for (int p = 0; p < 23; p++) {
            x.bury(p);
            x.renew(p, 98);
        }
        due.is("the plot without burials is free", 30, x.whenFor(9));
        for (int i = 0; i < 12; i++) {
            x.ask(i < 11 ? 8 : 7);
        }
        due.is("8 asked first", 30, x.whenFor(8));
        due.is("7, behind eleven: the plots are cleared in 128", 128, x.whenFor(7));
        due.is("9, though 12 wait", 128, x.whenFor(9));
        x.claim(23, 9);
        due.is("in dispute it stays", 128, x.whenFor(8));
        x.settle(23, false);
        x.renew(23, 1);
        due.is("a year later", 31, x.whenFor(8));
        x.run(31);
        due.is("8 has one, and waits for more", 61, x.whenFor(8));
    }

    private static void whenForNever() {
        PlotLeases x = Due.full();
        for (int p = 0; p < 24; p++) {
            x.renew(p, 99);
            x.renew(p, 71);
        }
        due.is("the year 200", 200, x.whenFor(0));
        for (int p = 0; p < 24; p++) {
            x.renew(p, 1);
        }
        due.is("the year 201", -1, x.whenFor(0));
        x.run(1);
        due.is("the year 201, a year later", 201, x.whenFor(0));
        PlotLeases y = Due.full();
        for (int p = 0; p < 24; p++) {
            y.claim(p, 9);
        }
        due.is("all in dispute", -1, y.whenFor(0));
        PlotLeases z = Due.full();
        for (int i = 0; i < 12; i++) {
            z.ask(8);
        }
        due.is("the 13th of those who wait, when all leases end", 30, z.whenFor(9));
        due.is("of 12 who wait none is forgotten", 12, z.run(30));
    }

    private static void nothingIsChanged() {
        PlotLeases x = Due.full();
        x.ask(9);
        x.coming(200, 0);
        x.whenFor(9);
        x.plotFor(9);
        x.clearFrom(0);
        due.is("the year", 0, x.about(0));
        due.is("those who wait", 1, x.about(5));
        due.is("paid", 24 * 60, x.about(8));
        due.is("undo", 13, x.undo());
        due.is("undo took back ask(9)", 0, x.about(5));
    }
}
