/** Promises 25 to 28: plotFor, clearFrom, coming, whenFor. */
final class ForecastTest {
    private static final Due due = new Due();

    public static void main(String[] args) {
        plotFor();
        plotForNearOwnPlots();
        clearFrom();
        clearFromWithBurials();
        comingRanges();
        comingNumbers();
        comingServes();
        whenForNow();
        whenForByWaiting();
        whenForClearsEachYear();
        whenForAtTwelve();
        whenForAfter200Years();
        whenForNever();
        nothingIsChanged();
        due.end();
    }

    // ---- plotFor

    private static void plotFor() {
        due.says("Returns the plot for this family now; NONE if there is no free one. Throws `IndexOutOfBoundsException`"
                + " if there is no such family");
        PlotLeases x = new PlotLeases();
        int[] outside = {Integer.MIN_VALUE, -1, 10, Integer.MAX_VALUE};
        for (int f : outside) {
            due.thrown("plotFor(" + f + ")", Due.INDEX, () -> x.plotFor(f));
        }
        for (int f = 0; f < 10; f++) {
            due.is("plotFor(" + f + ") of a new object", 0, x.plotFor(f));
            due.is("plotFor(" + f + ") of a full ground", -1, Grounds.full().plotFor(f));
        }
        due.thrown("plotFor(10) of a full ground", Due.INDEX, () -> Grounds.full().plotFor(10));
        for (int p = 0; p < 24; p++) {
            due.is("the only free one", p, Grounds.freeAre(p == 0 ? 1 : 0, p, p).plotFor(0));
            due.is("the only free one for a family without plots", p, Grounds.freeAre(p == 0 ? 1 : 0, p, p).plotFor(9));
        }
        PlotLeases y = Grounds.waited(12);
        due.is("though 12 wait", -1, y.plotFor(0));
    }

    private static void plotForNearOwnPlots() {
        due.says("Tells which plot a family would get.");
        PlotLeases x = new PlotLeases();
        x.let(0, 21);
        due.is("near 21", 15, x.plotFor(0));
        x.let(1, 15);
        due.is("near 21, 15 is let", 20, x.plotFor(0));
        x.let(1, 20);
        due.is("near 21, 20 is let", 22, x.plotFor(0));
        x.let(1, 22);
        due.is("at way 2", 9, x.plotFor(0));
        due.is("of other families", 0, x.plotFor(5));
        x.let(0, 10);
        x.claim(10, 5);
        x.run(30);
        due.is("a lapsed plot counts", 4, x.plotFor(0));
        due.is("a claimed one does not count for the claimant", 0, x.plotFor(5));
        x.settle(10, true);
        due.is("it counts when it is settled", 4, x.plotFor(5));
        due.is("and no longer for the other one", 0, x.plotFor(0));
        x.let(1, 4);
        due.is("the next one", 9, x.plotFor(5));
        due.is("the ask that follows gets it", 9, x.ask(5));
    }

    // ---- clearFrom

    private static void clearFrom() {
        due.says("Returns the first year, that of now or a later one, in which it has lapsed, and does not rest, if nothing"
                + " else was done (disputes do not matter); NONE if it is free. Throws `IndexOutOfBoundsException` if"
                + " there is no such plot");
        PlotLeases x = new PlotLeases();
        int[] outside = {Integer.MIN_VALUE, -1, 24, Integer.MAX_VALUE};
        for (int p : outside) {
            due.thrown("clearFrom(" + p + ")", Due.INDEX, () -> x.clearFrom(p));
        }
        due.is("free, the first one", -1, x.clearFrom(0));
        due.is("free, the last one", -1, x.clearFrom(23));
        x.set(0, 1);
        due.is("let for a year", 0, x.let(0, 23));
        due.is("without burials: behind the last year", 1, x.clearFrom(23));
        x.claim(23, 1);
        due.is("in dispute", 1, x.clearFrom(23));
        x.run(1);
        due.is("now", 1, x.clearFrom(23));
        x.run(1);
        due.is("the year of now, not an earlier one", 2, x.clearFrom(23));
        x.settle(23, true);
        due.is("settled", 2, x.clearFrom(23));
        x.renew(23, 1);
        due.is("renewed, but lapsed", 2, x.clearFrom(23));
        x.renew(23, 1);
        due.is("renewed up to now", 3, x.clearFrom(23));
        x.run(1);
        due.is("free again", -1, x.clearFrom(23));
    }

    private static void clearFromWithBurials() {
        due.says("in which it has lapsed, and does not rest");
        PlotLeases x = Grounds.let(30, 20, 0);
        x.run(9);
        x.bury(0);
        due.is("lapsed in 30, at rest until 29", 30, x.clearFrom(0));
        x.run(1);
        x.bury(0);
        due.is("the last year is 30", 31, x.clearFrom(0));
        x.set(1, 21);
        due.is("at rest until 31", 31, x.clearFrom(0));
        x.set(1, 22);
        due.is("at rest until 32", 32, x.clearFrom(0));
        x.claim(0, 9);
        due.is("disputes do not matter", 32, x.clearFrom(0));
        x.run(22);
        due.is("now", 32, x.clearFrom(0));
        x.run(1);
        due.is("the year of now", 33, x.clearFrom(0));
        x.set(1, 24);
        due.is("a longer rest", 34, x.clearFrom(0));
        x.set(1, 1);
        due.is("a shorter one", 33, x.clearFrom(0));
        x.settle(0, false);
        due.is("the last year", 129, x.renew(0, 99));
        due.is("behind the last year", 130, x.clearFrom(0));
    }

    // ---- coming

    private static void comingRanges() {
        due.says("`n`: 1 to 200",
                "Throws `IllegalArgumentException` if n is out of range, or what is not 0 to 3");
        PlotLeases x = new PlotLeases();
        int[] years = {Integer.MIN_VALUE, -1, 0, 201, Integer.MAX_VALUE};
        for (int n : years) {
            due.thrown("coming(" + n + ", 0)", Due.ARGUMENT, () -> x.coming(n, 0));
            due.thrown("coming(" + n + ", 4)", Due.ARGUMENT, () -> x.coming(n, 4));
        }
        int[] whats = {Integer.MIN_VALUE, -1, 4, Integer.MAX_VALUE};
        for (int what : whats) {
            due.thrown("coming(1, " + what + ")", Due.ARGUMENT, () -> x.coming(1, what));
            due.thrown("coming(200, " + what + ")", Due.ARGUMENT, () -> x.coming(200, what));
        }
        for (int what = 0; what < 4; what++) {
            due.is("coming(1, " + what + ")", what == 0 ? 24 : 0, x.coming(1, what));
            due.is("coming(200, " + what + ")", what == 0 ? 24 : 0, x.coming(200, what));
        }
        PlotLeases y = Grounds.full();
        for (int p = 0; p < 24; p++) {
            y.renew(p, 99);
            y.renew(p, p < 10 ? 71 : 72);
        }
        due.is("free in the year 199", 0, y.coming(199, 0));
        due.is("free in the year 200", 10, y.coming(200, 0));
        y.run(1);
        due.is("free in the year 201", 24, y.coming(200, 0));
    }

    private static void comingNumbers() {
        due.says("0: the free plots then; 1: the plots that have lapsed then; 2: the plots that can be cleared then; 3: those"
                + " who wait then");
        PlotLeases x = Grounds.waited(1);
        x.bury(0);
        x.bury(1);
        x.claim(1, 9);
        x.set(1, 40);
        x.renew(23, 99);
        due.same("in a year", "0 0 0 1", comingAll(x, 1));
        due.same("in 29 years", "0 0 0 1", comingAll(x, 29));
        due.same("in 30 years", "20 2 0 0", comingAll(x, 30));
        due.same("in 39 years", "20 2 0 0", comingAll(x, 39));
        due.same("in 40 years: nothing is cleared", "20 2 1 0", comingAll(x, 40));
        due.same("in 59 years: the lease of the one who waited", "20 2 1 0", comingAll(x, 59));
        due.same("in 60 years", "21 2 1 0", comingAll(x, 60));
        due.same("in 128 years", "21 2 1 0", comingAll(x, 128));
        due.same("in 129 years", "22 2 1 0", comingAll(x, 129));
        due.same("in 200 years", "22 2 1 0", comingAll(x, 200));
        x.run(30);
        due.same("in a year, as the year is 30", "20 2 0 0", comingAll(x, 1));
        due.same("in 10 years", "20 2 1 0", comingAll(x, 10));
    }

    private static String comingAll(PlotLeases x, int n) {
        return x.coming(n, 0) + " " + x.coming(n, 1) + " " + x.coming(n, 2) + " " + x.coming(n, 3);
    }

    private static void comingServes() {
        due.says("Returns that number behind n years (in which those who wait get plots, and nothing is cleared), if nothing"
                + " else is done.");
        PlotLeases x = Grounds.waited(12);
        for (int p = 0; p < 24; p++) {
            if (p > 0) {
                x.bury(p);
            }
        }
        due.same("in 29 years", "0 0 0 12", comingAll(x, 29));
        due.same("in 30 years one gets plot 0", "0 23 23 11", comingAll(x, 30));
        due.same("in 60 years another one", "0 23 23 10", comingAll(x, 60));
        due.same("in 200 years the sixth one has it", "0 23 23 6", comingAll(x, 200));
        x.run(30);
        x.clear(5);
        due.is("what is cleared is free", 1, x.about(1));
        due.same("it is let in a year", "0 22 22 10", comingAll(x, 1));
    }

    // ---- whenFor

    private static void whenForNow() {
        due.says("Throws `IndexOutOfBoundsException` if there is no such family");
        PlotLeases x = new PlotLeases();
        int[] outside = {Integer.MIN_VALUE, -1, 10, Integer.MAX_VALUE};
        for (int f : outside) {
            due.thrown("whenFor(" + f + ")", Due.INDEX, () -> x.whenFor(f));
        }
        due.says("Returns the first year, that of now or one of the next 200, in which the family would get a plot");
        for (int f = 0; f < 10; f++) {
            due.is("whenFor(" + f + ") of a new object", 0, x.whenFor(f));
        }
        x.run(5);
        due.is("of a year", 5, x.whenFor(0));
        PlotLeases y = Grounds.clearable(12, 5);
        y.clear(5);
        due.is("who asks gets the free plot, whoever waits", 30, y.whenFor(0));
    }

    private static void whenForByWaiting() {
        due.says("(also by waiting that began before)");
        PlotLeases x = Grounds.full();
        x.ask(9);
        for (int p = 0; p < 24; p++) {
            x.bury(p);
            if (p > 1) {
                x.renew(p, 99);
            }
        }
        x.renew(1, 1);
        due.is("9, the first one who waits", 30, x.whenFor(9));
        due.is("8 stands behind it", 31, x.whenFor(8));
        x.ask(8);
        due.is("8 waits already", 31, x.whenFor(8));
        due.is("7 stands behind both: plot 0 is free again", 60, x.whenFor(7));
        x.run(31);
        due.is("8 is served by a clearing of now", 31, x.whenFor(8));
        due.is("7 by the next one", 61, x.whenFor(7));
    }

    private static void whenForClearsEachYear() {
        due.says("and then, in each year, that of now included, all plots that can be cleared were cleared, ascending, and"
                + " behind that those who wait got plots, as when a year goes by");
        PlotLeases x = Grounds.full();
        for (int p = 0; p < 24; p++) {
            x.bury(p);
            x.renew(p, p == 23 ? 1 : p == 22 ? 2 : 99);
        }
        x.run(29);
        due.is("in the last year but one", 31, x.whenFor(9));
        x.run(2);
        due.is("cleared in the year of now", 31, x.whenFor(9));
        x.claim(23, 8);
        due.is("in dispute: by the next one", 32, x.whenFor(9));
        x.claim(22, 8);
        due.is("both in dispute", 129, x.whenFor(9));
        x.settle(22, true);
        due.is("settled", 32, x.whenFor(9));
        x.settle(23, true);
        x.set(1, 40);
        due.is("at rest until 40", 40, x.whenFor(9));
        x.ask(9);
        due.is("the two that rest are cleared in one year", 40, x.whenFor(8));
        x.ask(8);
        due.is("they are let for 30 years then", 70, x.whenFor(7));
        x.set(0, 3);
        due.is("they are let for 3 years then", 43, x.whenFor(7));
        PlotLeases y = Grounds.full();
        for (int p = 0; p < 24; p++) {
            if (p == 23) {
                y.claim(p, 9);
            } else {
                y.renew(p, 99);
            }
        }
        y.run(30);
        y.settle(23, true);
        due.is("one without burials is cleared in the year of now", 30, y.whenFor(8));
    }

    private static void whenForAtTwelve() {
        due.says("if it asked now (though 12 wait)");
        PlotLeases x = Grounds.waited(11);
        due.is("the twelfth one", 30, x.whenFor(0));
        x.ask(7);
        due.is("the thirteenth one", 30, x.whenFor(0));
        due.is("one of the twelve", 30, x.whenFor(7));
        for (int p = 12; p < 24; p++) {
            x.renew(p, 50);
        }
        due.is("twelve plots: one of the twelve", 30, x.whenFor(7));
        due.is("twelve plots: the thirteenth one waits for the second leases", 60, x.whenFor(0));
        x.renew(11, 50);
        due.is("eleven plots: the twelfth one", 60, x.whenFor(7));
        x.undo();
        x.undo();
        due.is("thirteen plots: the thirteenth one", 30, x.whenFor(0));
        due.thrown("it cannot ask", Due.STATE, () -> x.ask(0));
        due.is("12 wait", 12, x.about(5));
    }

    private static void whenForAfter200Years() {
        due.says("that of now or one of the next 200");
        PlotLeases x = Grounds.full();
        for (int p = 0; p < 24; p++) {
            x.renew(p, 99);
            x.renew(p, 71);
        }
        due.is("the year 200", 200, x.whenFor(0));
        for (int p = 0; p < 24; p++) {
            x.renew(p, 1);
        }
        due.is("the year 201", -1, x.whenFor(0));
        x.run(1);
        due.is("the year 201, a year later", 201, x.whenFor(0));
        PlotLeases y = Grounds.full();
        for (int p = 0; p < 24; p++) {
            y.bury(p);
            y.renew(p, 99);
            y.renew(p, 71);
        }
        due.is("a clearing in the year 200", 200, y.whenFor(0));
        for (int p = 0; p < 24; p++) {
            y.renew(p, 1);
        }
        due.is("a clearing in the year 201", -1, y.whenFor(0));
    }

    private static void whenForNever() {
        due.says("NONE if there is none");
        PlotLeases x = Grounds.full();
        for (int p = 0; p < 24; p++) {
            x.claim(p, 9);
        }
        due.is("all in dispute", -1, x.whenFor(0));
        x.settle(23, false);
        due.is("one is settled", 30, x.whenFor(0));
        for (int i = 0; i < 7; i++) {
            x.ask(8);
        }
        due.is("the eighth one gets a plot in the year 30 + 7 * 30", -1, x.whenFor(0));
        due.is("8 asked first", 30, x.whenFor(8));
        x.undo();
        due.is("the seventh one: the year 210", -1, x.whenFor(0));
        x.run(10);
        due.is("the year 210, when the year is 10", 210, x.whenFor(0));
    }

    // ---- all of them

    private static void nothingIsChanged() {
        due.says("what would be; these and all following methods up to the save slots change nothing");
        Twin twin = new Twin(due, Grounds::rich);
        twin.keeps("plotFor(9)", -1, x -> x.plotFor(9));
        twin.keeps("clearFrom(0)", 30, x -> x.clearFrom(0));
        twin.keeps("coming(1, 3)", 2, x -> x.coming(1, 3));
        twin.keeps("coming(200, 3)", 0, x -> x.coming(200, 3));
        twin.keeps("whenFor(0)", 30, x -> x.whenFor(0));
        Twin waited = new Twin(due, () -> Grounds.waited(12));
        waited.keeps("whenFor(0) though 12 wait", 30, x -> x.whenFor(0));
        waited.keeps("coming(99, 0)", 24, x -> x.coming(99, 0));
    }
}
