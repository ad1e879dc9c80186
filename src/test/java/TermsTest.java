/** What the document says under PLOTS, LEASES, WHO GETS WHICH PLOT, A YEAR, FEES and REGISTER. */
final class TermsTest {
    private static final int[] LOWEST = {1, 1, 0, 0, 0};
    private static final int[] HIGHEST = {99, 60, 99, 99, 99};
    private static final int[] FIRST = {30, 20, 2, 10, 5};

    private static final Due due = new Due();

    public static void main(String[] args) {
        manyCalls();
        plots();
        leases();
        burialsAndLeases();
        whoGetsWhichPlot();
        aYear();
        fees();
        register();
        due.end();
    }

    private static void manyCalls() {
        due.says("An object is used for at most 512 calls after it has been made");
        PlotLeases x = new PlotLeases();
        for (int i = 0; i < 511; i++) {
            x.run(99);
        }
        due.is("the year at the 512th call", 511 * 99, x.about(0));
        PlotLeases y = Grounds.let(99, 60, 23);
        y.set(2, 99);
        for (int i = 0; i < 504; i++) {
            y.renew(23, 99);
        }
        due.is("paid at the 509th call", 2 * 99 + 504 * 99 * 99, y.about(8));
        due.is("the last year at the 510th call", 505 * 99 - 1, y.plot(23, 1));
        due.is("the year behind it at the 511th call", 505 * 99, y.clearFrom(23));
        due.is("the line at the 512th call", '4', y.line(23, 11));
    }

    // ---- PLOTS

    private static void plots() {
        numberOfPlots();
        rowOfAPlot();
        depthOfARow();
        way();
        burialsUpToTheDepth();
        families();
        firstYear();
    }

    private static void numberOfPlots() {
        due.says("There are 24 plots, numbered from 0, in 4 rows of 6");
        PlotLeases x = new PlotLeases();
        due.thrown("let(0, -1)", Due.INDEX, () -> x.let(0, -1));
        due.is("let(0, 0)", 29, x.let(0, 0));
        due.is("let(0, 23)", 29, x.let(0, 23));
        due.thrown("let(0, 24)", Due.INDEX, () -> x.let(0, 24));
        due.is("the free plots", 22, x.about(1));
        due.thrown("depth(-1)", Due.INDEX, () -> x.depth(-1));
        due.is("depth(0)", 2, x.depth(0));
        due.is("depth(3)", 2, x.depth(3));
        due.thrown("depth(4)", Due.INDEX, () -> x.depth(4));
    }

    private static void rowOfAPlot() {
        due.says("the row of a plot is its number divided by 6, its column its number modulo 6");
        for (int row = 0; row < 4; row++) {
            PlotLeases x = Grounds.full();
            x.dig(row, 1);
            for (int i = 0; i < 24; i++) {
                int p = i;
                due.is("the first burial in " + p, 29, x.bury(p));
                if (p / 6 == row) {
                    due.thrown("the second one in " + p, Due.STATE, () -> x.bury(p));
                } else {
                    due.is("the second one in " + p, 29, x.bury(p));
                }
            }
        }
    }

    private static void depthOfARow() {
        due.says("A row has a depth, 1 to 3 layers, at first 2.");
        PlotLeases x = new PlotLeases();
        for (int i = 0; i < 4; i++) {
            int row = i;
            due.is("the depth at first", 2, x.depth(row));
            due.thrown("dig(" + row + ", 0)", Due.ARGUMENT, () -> x.dig(row, 0));
            due.thrown("dig(" + row + ", 4)", Due.ARGUMENT, () -> x.dig(row, 4));
            due.is("dig(" + row + ", 1)", 2, x.dig(row, 1));
            due.is("dig(" + row + ", 3)", 1, x.dig(row, 3));
            due.is("the depth then", 3, x.depth(row));
        }
    }

    /** Every plot, and every two free ones: the second one of these is got only if it is nearer. */
    private static void way() {
        due.says("The way between two plots is the difference of their rows plus that of their columns.");
        for (int own = 0; own < 24; own++) {
            for (int p = 0; p < 24; p++) {
                for (int q = p + 1; q < 24; q++) {
                    if (p != own && q != own) {
                        PlotLeases x = Grounds.freeAre(own, p, q);
                        int nearest = wayBetween(own, q) < wayBetween(own, p) ? q : p;
                        due.is("from " + own + " to " + p + " or " + q, nearest, x.plotFor(0));
                    }
                }
            }
        }
    }

    private static int wayBetween(int p, int q) {
        return Math.abs(p / 6 - q / 6) + Math.abs(p % 6 - q % 6);
    }

    private static void burialsUpToTheDepth() {
        due.says("and some burials, not more than the depth of its row, each with its year.");
        for (int depth = 1; depth <= 3; depth++) {
            PlotLeases x = Grounds.let(99, 1, 13);
            x.dig(2, depth);
            for (int k = 0; k < depth; k++) {
                x.run(1);
                due.is("burial " + k + " of " + depth, 98, x.bury(13));
            }
            due.thrown("one burial more than " + depth, Due.STATE, () -> x.bury(13));
            for (int k = 0; k < depth; k++) {
                due.is("year of burial " + k, k + 1, x.burial(13, k));
            }
            due.is("behind the last one", -1, x.burial(13, depth));
        }
    }

    private static void families() {
        due.says("A plot is free, or it is let to a family (0 to 9), with a last year of its lease");
        PlotLeases x = new PlotLeases();
        due.thrown("let(-1, 0)", Due.INDEX, () -> x.let(-1, 0));
        due.thrown("let(10, 0)", Due.INDEX, () -> x.let(10, 0));
        due.is("let(0, 0)", 29, x.let(0, 0));
        due.is("let(9, 1)", 29, x.let(9, 1));
        due.is("the family of 0", 0, x.plot(0, 0));
        due.is("the family of 1", 9, x.plot(1, 0));
        due.is("its last year", 29, x.plot(1, 1));
        due.is("a free one", -1, x.plot(2, 0));
        due.says("It may be in dispute with another family, the claimant.");
        due.thrown("claim by its own family", Due.STATE, () -> x.claim(0, 0));
        due.is("claim(0, 9)", 1, x.claim(0, 9));
        due.is("claim(1, 0)", 2, x.claim(1, 0));
        due.is("the claimant of 0", 9, x.plot(0, 4));
        due.is("the claimant of 1", 0, x.plot(1, 4));
    }

    private static void firstYear() {
        due.says("Years are numbered from 0; now is the year 0 at first.");
        PlotLeases x = new PlotLeases();
        due.is("the year", 0, x.about(0));
        x.let(0, 0);
        x.bury(0);
        due.is("the year of a burial", 0, x.burial(0, 0));
        due.is("the latest one", 0, x.plot(0, 3));
    }

    // ---- LEASES

    private static void leases() {
        lapse();
        rest();
        restIsOfTheLatest();
        noRestWithoutBurials();
        mayBeCleared();
        mayNotBeCleared();
        cleared();
    }

    private static void lapse() {
        due.says("A plot that is let has lapsed if the year is behind the last year of its lease.");
        for (int years = 1; years <= 99; years += 49) {
            PlotLeases x = Grounds.let(years, 20, 7);
            x.claim(7, 2);
            if (years > 1) {
                x.run(years - 1);
            }
            due.is("the state in the last year", 1, x.plot(7, 5));
            due.is("those that have lapsed", 0, x.about(2));
            due.registerIs(x, 7, "p7 f1 0/2 " + (years - 1) + "?2");
            x.run(1);
            due.is("the state in the year behind it", 2, x.plot(7, 5));
            due.is("those that have lapsed then", 1, x.about(2));
            due.registerIs(x, 7, "p7 f1 0/2 " + (years - 1) + "!?2");
        }
    }

    private static void rest() {
        due.says("It rests as long as the year is less than that of its latest burial plus setting 1");
        PlotLeases x = Grounds.let(1, 1, 7);
        x.bury(7);
        x.run(2);
        x.set(1, 3);
        due.is("the year 2, with a rest up to 3", 3, x.plot(7, 5));
        due.thrown("clear while it rests", Due.STATE, () -> x.clear(7));
        due.is("clearFrom", 3, x.clearFrom(7));
        x.set(1, 2);
        due.is("the year 2, with a rest up to 2", 4, x.plot(7, 5));
        due.is("clearFrom then", 2, x.clearFrom(7));
        x.set(1, 60);
        x.run(57);
        due.is("the year 59, with a rest up to 60", 3, x.plot(7, 5));
        due.is("those that can be cleared", 0, x.about(3));
        x.run(1);
        due.is("the year 60", 4, x.plot(7, 5));
        due.is("those that can be cleared then", 1, x.about(3));
    }

    private static void restIsOfTheLatest() {
        due.says("less than that of its latest burial plus setting 1");
        PlotLeases x = Grounds.let(3, 1, 23);
        x.dig(3, 3);
        for (int i = 0; i < 3; i++) {
            due.is("the last year", i < 2 ? 2 : 3, x.bury(23));
            x.run(1);
        }
        x.run(1);
        x.set(1, 10);
        due.is("burials in 0, 1 and 2, rest until 12", 12, x.clearFrom(23));
        x.run(7);
        due.is("the year 11", 3, x.plot(23, 5));
        x.run(1);
        due.is("the year 12", 4, x.plot(23, 5));
    }

    private static void noRestWithoutBurials() {
        due.says("a plot without burials does not rest");
        PlotLeases x = Grounds.let(1, 60, 7);
        x.claim(7, 2);
        x.run(1);
        x.settle(7, false);
        due.is("its state", 4, x.plot(7, 5));
        due.is("clearFrom", 1, x.clearFrom(7));
        due.is("those that can be cleared", 1, x.about(3));
        due.is("clear", 0, x.clear(7));
    }

    private static void mayBeCleared() {
        due.says("A plot (with burials, or without) can be cleared if it is let, has lapsed, does not rest,"
                + " and is not in dispute");
        PlotLeases x = Grounds.let(1, 1, 0);
        x.let(2, 1);
        x.bury(0);
        x.claim(0, 5);
        x.claim(1, 5);
        x.run(2);
        x.settle(0, true);
        x.settle(1, false);
        due.is("with burials", 4, x.plot(0, 5));
        due.is("without burials", 4, x.plot(1, 5));
        due.is("those that can be cleared", 2, x.about(3));
        due.is("clear of the one with", 1, x.clear(0));
        due.is("clear of the one without", 0, x.clear(1));
        due.is("none is left", 0, x.about(3));
    }

    /** Each time just one of the four conditions fails. */
    private static void mayNotBeCleared() {
        due.says("can be cleared if it is let, has lapsed, does not rest, and is not in dispute");
        PlotLeases free = new PlotLeases();
        free.run(50);
        refusesToClear("it is free", 0, free, 0);
        PlotLeases inLease = Grounds.let(9, 1, 0);
        inLease.bury(0);
        inLease.run(8);
        refusesToClear("its lease lasts", 1, inLease, 0);
        PlotLeases atRest = Grounds.let(1, 1, 0);
        atRest.bury(0);
        atRest.run(2);
        atRest.set(1, 3);
        refusesToClear("it rests", 3, atRest, 0);
        PlotLeases disputed = Grounds.let(1, 1, 0);
        disputed.bury(0);
        disputed.claim(0, 2);
        disputed.run(2);
        refusesToClear("it is in dispute", 2, disputed, 0);
        PlotLeases unused = Grounds.let(1, 1, 0);
        unused.claim(0, 2);
        unused.run(2);
        refusesToClear("it is in dispute, without burials", 2, unused, 0);
    }

    private static void refusesToClear(String why, int state, PlotLeases x, int p) {
        due.is("the state as " + why, state, x.plot(p, 5));
        due.is("those that can be cleared as " + why, 0, x.about(3));
        due.thrown("clear as " + why, Due.STATE, () -> x.clear(p));
        due.is("runScript as " + why, 0, x.runScript(1, 4000 + p));
    }

    private static void cleared() {
        due.says("what is buried there comes to the ossuary, and the plot is free");
        for (int burials = 1; burials <= 3; burials++) {
            PlotLeases x = Grounds.let(1, 1, 9);
            x.dig(1, 3);
            for (int k = 0; k < burials; k++) {
                x.bury(9);
            }
            x.run(2);
            due.is("clear", burials, x.clear(9));
            due.is("the ossuary", burials, x.about(7));
            due.is("burials in plots", 0, x.about(6));
            int[] free = {-1, -1, 0, -1, -1, 0};
            for (int what = 0; what < 6; what++) {
                due.is("plot(9, " + what + ")", free[what], x.plot(9, what));
            }
            due.is("let it again", 2, x.let(3, 9));
            due.is("no burial lies there", -1, x.burial(9, 0));
            due.is("the depth holds anew", 3, x.bury(9));
        }
    }

    // ---- a burial makes the lease longer

    private static void burialsAndLeases() {
        due.says("When somebody is buried in a plot, and the last year of its lease is less than the year"
                + " plus setting 1, that becomes its last year, and the fee of a year is paid for each year"
                + " by which it is later.");
        burialInYear(8, 29, 0);
        burialInYear(9, 29, 0);
        burialInYear(10, 30, 2);
        burialInYear(29, 49, 40);
        PlotLeases x = Grounds.let(1, 60, 0);
        x.set(2, 99);
        x.set(3, 0);
        due.is("a lease of a year, a rest of 60", 60, x.bury(0));
        due.is("paid for it", 2 + 60 * 99, x.family(1, 5));
        PlotLeases y = Grounds.let(1, 1, 0);
        y.set(2, 0);
        due.is("a fee of nothing", 1, y.bury(0));
        due.is("paid for that", 2 + 10, y.family(1, 5));
        due.is("the second burial in a year", 1, y.bury(0));
        due.is("paid for both", 2 + 20, y.family(1, 5));
    }

    private static void burialInYear(int year, int lastYear, int paidForYears) {
        PlotLeases x = Grounds.let(30, 20, 0);
        x.run(year);
        due.is("bury in the year " + year, lastYear, x.bury(0));
        due.is("the last year then", lastYear, x.plot(0, 1));
        due.is("paid then", 60 + 10 + paidForYears, x.family(1, 5));
    }

    // ---- WHO GETS WHICH PLOT

    private static void whoGetsWhichPlot() {
        leastWay();
        lapsedPlotsCount();
        withoutPlots();
        whoeverWaits();
        noFreePlot();
        leaseOfAPlotThatIsGot();
    }

    private static void leastWay() {
        due.says("among the free ones, the one with the least way to a plot that is let to this family,"
                + " of several the lowest");
        PlotLeases x = new PlotLeases();
        x.let(4, 23);
        x.let(4, 0);
        due.is("1, 6, 17 and 22 are as near: the lowest", 1, x.ask(4));
        due.is("2, 6, 7, 17 and 22 are", 2, x.ask(4));
        x.let(5, 3);
        x.let(5, 6);
        x.let(5, 7);
        x.let(5, 8);
        due.is("17 and 22 are", 17, x.ask(4));
        due.is("11, 16 and 22 are", 11, x.ask(4));
        PlotLeases y = Grounds.freeAre(12, 5, 23);
        due.is("plot 5 at way 7, 23 at way 6", 23, y.plotFor(0));
        PlotLeases z = Grounds.freeAre(17, 0, 12);
        due.is("the row's end is no way to the next row: 12 at way 5", 12, z.plotFor(0));
        PlotLeases corner = Grounds.freeAre(23, 0, 6);
        due.is("the longest ways: 8 and 7", 6, corner.plotFor(0));
        PlotLeases only = Grounds.freeAre(23, 0, 0);
        due.is("the only free one, at way 8", 0, only.plotFor(0));
    }

    private static void lapsedPlotsCount() {
        due.says("the one with the least way to a plot that is let to this family");
        PlotLeases x = Grounds.let(1, 60, 21);
        x.let(2, 9);
        x.claim(21, 8);
        x.bury(9);
        x.run(1);
        due.is("lapsed, and in dispute", 15, x.plotFor(1));
        due.is("not for the claimant", 0, x.plotFor(8));
        x.settle(21, true);
        due.is("it can be cleared", 15, x.plotFor(8));
        due.is("not for the one that lost it", 0, x.plotFor(1));
        x.run(60);
        due.is("21 is free then", 0, x.plotFor(8));
        due.is("9 has lapsed", 4, x.plot(9, 5));
        due.is("it counts", 3, x.plotFor(2));
    }

    private static void withoutPlots() {
        due.says("for a family without plots the lowest free one");
        PlotLeases x = new PlotLeases();
        due.is("of all", 0, x.plotFor(9));
        due.is("of all but 0 and 23", 1, Grounds.freeAre(5, 1, 22).plotFor(9));
        due.is("of 22 and 23", 22, Grounds.freeAre(5, 22, 23).plotFor(9));
        due.is("of 23 alone", 23, Grounds.freeAre(5, 23, 23).plotFor(9));
        due.is("of none", -1, Grounds.full().plotFor(9));
        x.let(1, 20);
        x.claim(20, 9);
        due.is("a claim is no plot", 0, x.plotFor(9));
    }

    private static void whoeverWaits() {
        due.says("When a family asks for a plot, it gets this one, whoever waits");
        PlotLeases x = Grounds.clearable(2, 0);
        x.clear(0);
        due.is("7 asks, though 9 and 8 wait", 0, x.ask(7));
        due.is("those who wait", 2, x.about(5));
        due.is("the first of them", 9, x.waiting(0));
        x.undo();
        due.is("9 asks, and waits", 0, x.ask(9));
        due.is("it waits still", 1, x.family(9, 2));
    }

    private static void noFreePlot() {
        due.says("if there is none, it waits (each time that it asks), behind those who wait already");
        PlotLeases x = Grounds.full();
        int[] asking = {9, 8, 9, 9, 0};
        for (int f : asking) {
            due.is("ask(" + f + ")", -1, x.ask(f));
        }
        for (int k = 0; k < asking.length; k++) {
            due.is("waiting(" + k + ")", asking[k], x.waiting(k));
        }
        due.is("how often 9 waits", 3, x.family(9, 2));
        due.is("who waits pays nothing", 0, x.family(9, 5));
    }

    private static void leaseOfAPlotThatIsGot() {
        due.says("A plot that a family gets is let to it from the year of now on, for setting 0 years: the last"
                + " one is the year plus setting 0 less 1; the fee of a year is paid for each of these years.");
        int[] years = {1, 2, 98, 99};
        int[] fees = {0, 1, 98, 99};
        for (int leaseYears : years) {
            for (int fee : fees) {
                PlotLeases x = new PlotLeases();
                x.set(0, leaseYears);
                x.set(2, fee);
                due.is("let in the year 0", leaseYears - 1, x.let(3, 5));
                due.is("paid for it", leaseYears * fee, x.family(3, 5));
                x.run(7);
                due.is("ask in the year 7", 0, x.ask(4));
                due.is("its last year", 6 + leaseYears, x.plot(0, 1));
                due.is("paid for that", leaseYears * fee, x.family(4, 5));
                due.is("paid by all", 2 * leaseYears * fee, x.about(8));
            }
        }
    }

    // ---- A YEAR

    private static void aYear() {
        yearByYear();
        unusedPlotsAreFree();
        servedInOrder();
        notSoManyPlots();
        notSoManyWho();
        servedYearByYear();
    }

    private static void yearByYear() {
        due.says("When a year goes by, the year becomes 1 greater");
        PlotLeases x = new PlotLeases();
        x.run(1);
        due.is("a year", 1, x.about(0));
        x.run(99);
        due.is("99 years", 100, x.about(0));
        x.run(2);
        due.is("two years", 102, x.about(0));
    }

    private static void unusedPlotsAreFree() {
        due.says("then each plot that is let, has lapsed, has no burials, and is not in dispute is free (this is"
                + " no clearing, and nothing is paid)");
        PlotLeases x = Grounds.let(2, 1, 0);
        x.let(1, 1);
        x.bury(1);
        x.let(1, 2);
        x.claim(2, 7);
        x.let(1, 23);
        x.run(1);
        int[] inLease = {1, 1, 1};
        int[] behind = {0, 4, 2};
        for (int p = 0; p < 3; p++) {
            due.is("the last year: state of " + p, inLease[p], x.plot(p, 5));
        }
        due.is("23 too", 1, x.plot(23, 5));
        x.run(1);
        for (int p = 0; p < 3; p++) {
            due.is("the year behind it: state of " + p, behind[p], x.plot(p, 5));
        }
        due.is("23 too", 0, x.plot(23, 5));
        due.is("its last year", -1, x.plot(23, 1));
        due.is("the free plots", 22, x.about(1));
        due.is("the ossuary", 0, x.about(7));
        due.is("paid by families", 4 * 4 + 10, x.about(8));
        due.is("paid by the town", 0, x.about(9));
        x.settle(2, false);
        due.is("settled: not free in that year", 4, x.plot(2, 5));
        x.run(1);
        due.is("free in the next one", 0, x.plot(2, 5));
        due.is("the town paid nothing for it", 0, x.about(9));
    }

    private static void servedInOrder() {
        due.says("and then, as long as somebody waits, and there is a free plot, the first one who waits gets the"
                + " plot for that family");
        PlotLeases x = Grounds.full();
        x.ask(7);
        x.ask(9);
        x.ask(0);
        for (int p = 0; p < 24; p++) {
            if (p != 3 && p != 20 && p != 4) {
                x.renew(p, 1);
            }
        }
        due.is("in the last year of 3, 4 and 20", 0, x.run(29));
        due.is("the plots that were free in that very year", 3, x.run(1));
        due.is("7 holds 21: 20 is the nearest", 7, x.plot(20, 0));
        due.is("9 gets the lowest", 9, x.plot(3, 0));
        due.is("0 gets what is left", 0, x.plot(4, 0));
        due.is("a lease from that year on", 59, x.plot(4, 1));
        due.is("0 paid for 4 plots", 4 * 60 + 3 * 2, x.family(0, 5));
        due.is("nobody waits", -1, x.waiting(0));
    }

    private static void notSoManyPlots() {
        due.says("as long as somebody waits, and there is a free plot");
        PlotLeases x = Grounds.waited(12);
        for (int p = 1; p < 24; p++) {
            x.renew(p, 9);
        }
        due.is("one plot for twelve", 1, x.run(30));
        due.is("eleven wait", 11, x.about(5));
        due.is("the second one is the first one now", 8, x.waiting(0));
        due.is("no plot is free", 0, x.about(1));
        due.is("none is served without a free plot", 0, x.run(8));
        due.is("eleven of 23 plots", 11, x.run(1));
        due.is("twelve are free", 12, x.about(1));
    }

    private static void notSoManyWho() {
        due.says("as long as somebody waits");
        PlotLeases x = Grounds.waited(2);
        due.is("24 plots for two", 2, x.run(30));
        due.is("nobody waits", 0, x.about(5));
        due.is("the others stay free", 22, x.about(1));
        due.is("nobody is served then", 0, x.run(1));
        PlotLeases y = Grounds.waited(1);
        for (int p = 1; p < 24; p++) {
            y.bury(p);
        }
        due.is("one plot for one", 1, y.run(30));
        due.is("none is free", 0, y.about(1));
        due.is("nobody waits then", 0, y.about(5));
    }

    private static void servedYearByYear() {
        due.says("When a year goes by");
        PlotLeases x = Grounds.waited(3);
        x.set(0, 1);
        for (int p = 0; p < 23; p++) {
            x.bury(p);
        }
        due.is("the one plot is let for a year, three times", 3, x.run(99));
        due.is("9 and 8 and 9 paid", 2 + 2, x.family(9, 5));
        due.is("8 paid", 2, x.family(8, 5));
        due.is("the plot is free then", 0, x.plot(23, 5));
        PlotLeases y = Grounds.waited(3);
        y.set(0, 1);
        for (int p = 0; p < 23; p++) {
            y.bury(p);
        }
        due.is("in the 31st year the second one has it", 2, y.run(31));
        due.is("this is 8", 8, y.plot(23, 0));
        due.is("for this year", 31, y.plot(23, 1));
    }

    // ---- FEES

    private static void fees() {
        String[] says = {"0: the years of a lease, 1 to 99, at first 30", "1: the years of rest, 1 to 60, at first 20",
            "2: the fee of a year, 0 to 99, at first 2", "3: the fee of a burial, 0 to 99, at first 10",
            "4: the fee for clearing, which the town pays, 0 to 99, at first 5"};
        for (int i = 0; i < 5; i++) {
            int what = i;
            due.says(says[what]);
            PlotLeases x = new PlotLeases();
            due.is("at first", FIRST[what], x.setting(what));
            due.thrown("below the range", Due.ARGUMENT, () -> x.set(what, LOWEST[what] - 1));
            due.thrown("above the range", Due.ARGUMENT, () -> x.set(what, HIGHEST[what] + 1));
            due.is("the highest", FIRST[what], x.set(what, HIGHEST[what]));
            due.is("the lowest", HIGHEST[what], x.set(what, LOWEST[what]));
            due.is("the setting", LOWEST[what], x.setting(what));
        }
        paidAtEachFee();
    }

    private static void paidAtEachFee() {
        due.says("4: the fee for clearing, which the town pays");
        int[] fees = {0, 1, 99};
        for (int fee : fees) {
            PlotLeases x = Grounds.let(1, 1, 0);
            x.set(2, fee);
            x.set(3, fee);
            x.set(4, fee);
            x.bury(0);
            due.is("a burial, and a year more, by the family", 2 + 2 * fee, x.family(1, 5));
            x.renew(0, 2);
            due.is("two years", 2 + 4 * fee, x.family(1, 5));
            x.run(4);
            x.clear(0);
            due.is("the clearing, by the town", fee, x.about(9));
            due.is("not by families", 2 + 4 * fee, x.about(8));
        }
    }

    // ---- REGISTER

    private static void register() {
        due.says("the letter p, its number, and then, for a free plot, the word free behind a blank");
        PlotLeases x = new PlotLeases();
        due.registerIs(x, 0, "p0 free");
        due.registerIs(x, 9, "p9 free");
        due.registerIs(x, 10, "p10 free");
        due.registerIs(x, 23, "p23 free");
        due.says("otherwise a blank, the letter f, the family, a blank, its burials, a slash, the depth of its row,"
                + " a blank, and the last year of its lease");
        x.set(0, 1);
        x.let(9, 0);
        due.registerIs(x, 0, "p0 f9 0/2 0");
        x.renew(0, 9);
        due.registerIs(x, 0, "p0 f9 0/2 9");
        x.renew(0, 1);
        due.registerIs(x, 0, "p0 f9 0/2 10");
        x.let(0, 23);
        x.dig(3, 3);
        x.bury(23);
        x.bury(23);
        x.bury(23);
        due.registerIs(x, 23, "p23 f0 3/3 20");
        x.dig(3, 1);
        due.registerIs(x, 23, "p23 f0 3/1 20");
        registerOfManyYears();
        lapsedAndInDispute();
    }

    private static void registerOfManyYears() {
        due.says("and the last year of its lease");
        PlotLeases x = new PlotLeases();
        x.let(5, 12);
        int[] lastYears = {99, 100, 999, 1000, 9999, 10000};
        for (int last : lastYears) {
            while (x.plot(12, 1) < last) {
                x.renew(12, Math.min(99, last - x.plot(12, 1)));
            }
            due.registerIs(x, 12, "p12 f5 0/2 " + last);
        }
        due.is("its last character", '0', x.line(12, 15));
        due.is("behind it", -1, x.line(12, 16));
    }

    private static void lapsedAndInDispute() {
        due.says("behind that, if it has lapsed, an exclamation mark, and if it is in dispute, a question mark and"
                + " the claimant");
        PlotLeases x = Grounds.let(3, 2, 6);
        x.bury(6);
        due.registerIs(x, 6, "p6 f1 1/2 2");
        x.claim(6, 0);
        due.registerIs(x, 6, "p6 f1 1/2 2?0");
        x.run(2);
        due.registerIs(x, 6, "p6 f1 1/2 2?0");
        x.run(1);
        due.registerIs(x, 6, "p6 f1 1/2 2!?0");
        x.settle(6, false);
        due.registerIs(x, 6, "p6 f1 1/2 2!");
        x.claim(6, 9);
        due.registerIs(x, 6, "p6 f1 1/2 2!?9");
        x.settle(6, true);
        due.registerIs(x, 6, "p6 f9 1/2 2!");
        x.renew(6, 1);
        due.registerIs(x, 6, "p6 f9 1/2 3");
        x.run(1);
        x.clear(6);
        due.registerIs(x, 6, "p6 free");
    }
}
