/** Promises 14 to 24: ask, let, bury, renew, claim, settle, clear, dig, run, set, undo. */
final class ActionTest {
    private static final Due due = new Due();

    public static void main(String[] args) {
        ask();
        askNearOwnPlots();
        let();
        bury();
        renew();
        claimAndSettle();
        clear();
        dig();
        run();
        runServesInOrder();
        set();
        undo();
        undoOfEachAction();
        refusedCallsChangeNothing();
        due.end();
    }

    private static void ask() {
        PlotLeases x = new PlotLeases();
        due.thrown("ask(-1)", Due.INDEX, () -> x.ask(-1));
        due.thrown("ask(10)", Due.INDEX, () -> x.ask(10));
        due.is("ask(3)", 0, x.ask(3));
        due.is("its last year", 29, x.plot(0, 1));
        due.is("what it paid", 60, x.family(3, 5));
        PlotLeases y = Due.full();
        for (int i = 0; i < 12; i++) {
            due.is("ask of a full ground", -1, y.ask(9 - i % 2));
        }
        due.thrown("ask though 12 wait", Due.STATE, () -> y.ask(0));
        due.thrown("ask(10) though 12 wait", Due.INDEX, () -> y.ask(10));
        due.is("those who wait", 12, y.about(5));
        y.bury(0);
        for (int p = 1; p < 24; p++) {
            y.renew(p, 99);
        }
        y.run(30);
        y.clear(0);
        due.is("though 12 wait, the one free plot", 0, y.ask(5));
        due.thrown("ask when that is let", Due.STATE, () -> y.ask(5));
        due.is("12 wait still", 12, y.about(5));
    }

    private static void askNearOwnPlots() {
        PlotLeases x = new PlotLeases();
        x.let(1, 15);
        due.is("of four equal ones the lowest", 9, x.ask(1));
        due.is("of many at way 1 the lowest", 3, x.ask(1));
        x.let(2, 2);
        x.let(2, 4);
        due.is("near the plots of 1", 8, x.ask(1));
        due.is("near the plots of 2", 1, x.ask(2));
        due.is("the lowest free one for a family without plots", 0, x.ask(5));
        x.let(6, 5);
        due.is("a row has an end: 6 is not near 5", 11, x.ask(6));
        due.is("below 0", 6, x.ask(5));
    }

    private static void let() {
        PlotLeases x = new PlotLeases();
        due.thrown("let(10, 0)", Due.INDEX, () -> x.let(10, 0));
        due.thrown("let(-1, 0)", Due.INDEX, () -> x.let(-1, 0));
        due.thrown("let(0, 24)", Due.INDEX, () -> x.let(0, 24));
        due.thrown("let(0, -1)", Due.INDEX, () -> x.let(0, -1));
        x.run(7);
        x.set(0, 5);
        x.set(2, 3);
        due.is("let(9, 23)", 11, x.let(9, 23));
        due.is("what 9 paid", 15, x.family(9, 5));
        due.thrown("let a plot that is let", Due.STATE, () -> x.let(9, 23));
        due.thrown("let(10, 23)", Due.INDEX, () -> x.let(10, 23));
        due.is("its burials", 0, x.plot(23, 2));
    }

    private static void bury() {
        PlotLeases x = new PlotLeases();
        due.thrown("bury(-1)", Due.INDEX, () -> x.bury(-1));
        due.thrown("bury(24)", Due.INDEX, () -> x.bury(24));
        due.thrown("bury in a free plot", Due.STATE, () -> x.bury(0));
        x.let(2, 0);
        x.run(9);
        due.is("bury(0): 9 + 20 is not behind 29", 29, x.bury(0));
        due.is("what 2 paid", 70, x.family(2, 5));
        x.run(1);
        due.is("bury(0): a year more", 30, x.bury(0));
        due.is("what 2 paid then", 82, x.family(2, 5));
        due.thrown("bury in a full plot", Due.STATE, () -> x.bury(0));
        x.dig(0, 1);
        due.thrown("bury in a plot that is more than full", Due.STATE, () -> x.bury(0));
        x.dig(0, 3);
        x.claim(0, 3);
        due.thrown("bury in a plot in dispute", Due.STATE, () -> x.bury(0));
        x.settle(0, true);
        x.run(20);
        due.is("bury in the last year", 50, x.bury(0));
        due.is("what 3 paid", 50, x.family(3, 5));
        due.is("what 2 paid at last", 82, x.family(2, 5));
        PlotLeases y = new PlotLeases();
        y.let(0, 6);
        y.bury(6);
        y.run(30);
        due.thrown("bury in a plot that has lapsed", Due.STATE, () -> y.bury(6));
        y.renew(6, 1);
        due.is("bury when it is renewed", 50, y.bury(6));
    }

    private static void renew() {
        PlotLeases x = new PlotLeases();
        due.thrown("renew(24, 0)", Due.INDEX, () -> x.renew(24, 0));
        due.thrown("renew(-1, 1)", Due.INDEX, () -> x.renew(-1, 1));
        due.thrown("renew(0, 0)", Due.ARGUMENT, () -> x.renew(0, 0));
        due.thrown("renew(0, 100)", Due.ARGUMENT, () -> x.renew(0, 100));
        due.thrown("renew of a free plot", Due.STATE, () -> x.renew(0, 1));
        x.let(1, 0);
        x.bury(0);
        due.is("renew(0, 1)", 30, x.renew(0, 1));
        due.is("renew(0, 99)", 129, x.renew(0, 99));
        due.is("what 1 paid", 60 + 10 + 200, x.family(1, 5));
        x.claim(0, 2);
        due.thrown("renew of a plot in dispute", Due.STATE, () -> x.renew(0, 1));
        due.thrown("renew(0, 100) in dispute", Due.ARGUMENT, () -> x.renew(0, 100));
        x.settle(0, false);
        x.run(99);
        x.run(51);
        due.is("renew of a lapsed one", 134, x.renew(0, 5));
        due.is("it has lapsed still", 4, x.plot(0, 5));
        due.is("renew of a lapsed one up to now", 150, x.renew(0, 16));
        due.is("it is let again", 1, x.plot(0, 5));
    }

    private static void claimAndSettle() {
        PlotLeases x = new PlotLeases();
        due.thrown("claim(24, 0)", Due.INDEX, () -> x.claim(24, 0));
        due.thrown("claim(-1, 0)", Due.INDEX, () -> x.claim(-1, 0));
        due.thrown("claim(0, 10)", Due.INDEX, () -> x.claim(0, 10));
        due.thrown("claim(0, -1)", Due.INDEX, () -> x.claim(0, -1));
        due.thrown("claim of a free plot", Due.STATE, () -> x.claim(0, 1));
        due.thrown("settle(24, true)", Due.INDEX, () -> x.settle(24, true));
        due.thrown("settle(-1, true)", Due.INDEX, () -> x.settle(-1, true));
        due.thrown("settle of a free plot", Due.STATE, () -> x.settle(0, true));
        x.let(1, 0);
        x.bury(0);
        x.let(2, 20);
        due.thrown("claim of an own plot", Due.STATE, () -> x.claim(0, 1));
        due.thrown("settle without a dispute", Due.STATE, () -> x.settle(0, false));
        due.is("claim(0, 9)", 1, x.claim(0, 9));
        due.is("claim(20, 9)", 2, x.claim(20, 9));
        due.thrown("claim of a plot in dispute", Due.STATE, () -> x.claim(0, 3));
        due.thrown("claim by the claimant", Due.STATE, () -> x.claim(0, 9));
        due.is("settle(20, false)", 2, x.settle(20, false));
        due.is("settle(0, true)", 9, x.settle(0, true));
        due.is("no dispute is left", 0, x.about(4));
        due.registerIs(x, 0, "p0 f9 1/2 29");
        due.is("nothing is paid for it", 0, x.family(9, 5));
        x.run(30);
        due.is("claim of a lapsed plot", 1, x.claim(0, 1));
        due.is("settle it", 9, x.settle(0, false));
        due.is("claim it again", 1, x.claim(0, 1));
    }

    private static void clear() {
        PlotLeases x = Due.full();
        due.thrown("clear(24)", Due.INDEX, () -> x.clear(24));
        due.thrown("clear(-1)", Due.INDEX, () -> x.clear(-1));
        due.thrown("clear of a plot that is let", Due.STATE, () -> x.clear(0));
        x.ask(9);
        x.bury(0);
        x.bury(0);
        x.bury(1);
        x.bury(2);
        for (int p = 3; p < 24; p++) {
            x.renew(p, 50);
        }
        x.run(29);
        due.thrown("clear in the last year", Due.STATE, () -> x.clear(0));
        x.set(1, 31);
        x.claim(1, 9);
        x.run(1);
        due.thrown("clear while it rests", Due.STATE, () -> x.clear(0));
        x.run(1);
        due.thrown("clear in dispute", Due.STATE, () -> x.clear(1));
        due.is("clear(0)", 2, x.clear(0));
        due.thrown("clear of a free plot", Due.STATE, () -> x.clear(0));
        due.is("nobody gets it now", 1, x.about(1));
        due.is("the ossuary", 2, x.about(7));
        due.is("the town paid", 5, x.about(9));
        due.is("burials in plots", 2, x.about(6));
        x.set(4, 0);
        due.is("clear(2)", 1, x.clear(2));
        due.is("the town paid no more", 5, x.about(9));
        due.is("9 waits still", 1, x.family(9, 2));
        due.is("a family that asks gets it, whoever waits", 2, x.ask(1));
        due.is("a year goes by", 1, x.run(1));
        due.is("9 has a plot then", 9, x.plot(0, 0));
        due.is("a cleared plot has no burials", -1, x.burial(0, 0));
        x.settle(1, false);
        due.is("clear(1)", 1, x.clear(1));
        due.is("the ossuary at last", 4, x.about(7));
    }

    private static void dig() {
        PlotLeases x = new PlotLeases();
        due.thrown("dig(4, 0)", Due.INDEX, () -> x.dig(4, 0));
        due.thrown("dig(-1, 1)", Due.INDEX, () -> x.dig(-1, 1));
        due.thrown("dig(0, 0)", Due.ARGUMENT, () -> x.dig(0, 0));
        due.thrown("dig(0, 4)", Due.ARGUMENT, () -> x.dig(0, 4));
        due.is("dig(3, 3)", 2, x.dig(3, 3));
        due.is("dig(3, 1)", 3, x.dig(3, 1));
        due.is("depth(3)", 1, x.depth(3));
        due.is("depth(2)", 2, x.depth(2));
        x.let(0, 17);
        x.let(0, 18);
        x.bury(17);
        x.bury(17);
        x.bury(18);
        due.thrown("bury in row 3", Due.STATE, () -> x.bury(18));
        x.dig(2, 1);
        due.is("burials stay", 2, x.plot(17, 2));
        due.is("the later one too", 0, x.burial(17, 1));
    }

    private static void run() {
        PlotLeases x = new PlotLeases();
        due.thrown("run(0)", Due.ARGUMENT, () -> x.run(0));
        due.thrown("run(-1)", Due.ARGUMENT, () -> x.run(-1));
        due.thrown("run(100)", Due.ARGUMENT, () -> x.run(100));
        due.is("run(1)", 0, x.run(1));
        due.is("run(99)", 0, x.run(99));
        due.is("the year", 100, x.about(0));
        x.let(0, 0);
        x.let(1, 1);
        x.claim(1, 0);
        x.let(2, 2);
        x.bury(2);
        x.run(29);
        due.is("nothing is free in the last year", 21, x.about(1));
        x.run(1);
        due.is("the one without burials and dispute is free", 22, x.about(1));
        due.is("state of 0", 0, x.plot(0, 5));
        due.is("state of 1", 2, x.plot(1, 5));
        due.is("state of 2", 4, x.plot(2, 5));
        due.is("it is no clearing", 0, x.about(9));
        due.is("nobody pays", 190, x.about(8));
        x.settle(1, true);
        due.is("as the next year goes by", 0, x.run(1));
        due.is("state of 1 then", 0, x.plot(1, 5));
    }

    private static void runServesInOrder() {
        PlotLeases x = Due.full();
        x.ask(9);
        x.ask(0);
        x.ask(9);
        x.ask(8);
        due.is("before the leases end", 0, x.run(29));
        x.renew(0, 70);
        for (int p = 2; p < 22; p++) {
            x.renew(p, 1);
        }
        due.is("1, 22 and 23 are free then", 3, x.run(1));
        due.is("9 gets the lowest free one", 9, x.plot(1, 0));
        due.is("0 gets the nearest to 0", 0, x.plot(22, 0));
        due.is("9 gets the last one", 9, x.plot(23, 0));
        due.is("8 waits", 1, x.about(5));
        due.is("8 is the first one", 8, x.waiting(0));
        due.is("nobody behind it", -1, x.waiting(1));
        due.is("a lease from now on", 59, x.plot(23, 1));
        due.is("9 paid for two", 120, x.family(9, 5));
        PlotLeases z = Due.full();
        z.ask(7);
        z.ask(0);
        for (int p = 0; p < 23; p++) {
            if (p != 2) {
                z.renew(p, 1);
            }
        }
        due.is("2 and 23 are free", 2, z.run(30));
        due.is("7, the first one, is near 23", 7, z.plot(23, 0));
        due.is("0 gets the other one", 0, z.plot(2, 0));
        PlotLeases y = Due.full();
        y.set(0, 1);
        for (int i = 0; i < 12; i++) {
            y.ask(i % 10);
        }
        due.is("12 are served in many years", 12, y.run(99));
        due.is("their leases of a year end too", 24, y.about(1));
    }

    private static void set() {
        PlotLeases x = new PlotLeases();
        int[] lowest = {1, 1, 0, 0, 0};
        int[] highest = {99, 60, 99, 99, 99};
        int[] first = {30, 20, 2, 10, 5};
        for (int i = 0; i < 5; i++) {
            int what = i;
            due.thrown("set below the range", Due.ARGUMENT, () -> x.set(what, lowest[what] - 1));
            due.thrown("set above the range", Due.ARGUMENT, () -> x.set(what, highest[what] + 1));
            due.is("set to the lowest", first[what], x.set(what, lowest[what]));
            due.is("set to the highest", lowest[what], x.set(what, highest[what]));
            due.is("setting", highest[what], x.setting(what));
        }
        due.thrown("set(5, 1)", Due.ARGUMENT, () -> x.set(5, 1));
        due.thrown("set(-1, 1)", Due.ARGUMENT, () -> x.set(-1, 1));
        due.is("a lease of 99 years", 98, x.let(0, 0));
        due.is("the fee of them", 99 * 99, x.family(0, 5));
        due.is("a burial", 98, x.bury(0));
        due.is("the fee of it", 99 * 99 + 99, x.family(0, 5));
        x.run(99);
        x.clear(0);
        due.is("the clearing", 99, x.about(9));
    }

    private static void undo() {
        PlotLeases x = new PlotLeases();
        due.thrown("undo of nothing", Due.STATE, () -> x.undo());
        for (int i = 0; i < 20; i++) {
            x.run(1);
        }
        for (int i = 13; i >= 0; i--) {
            due.is("undo", i, x.undo());
            due.is("the year", 6 + i, x.about(0));
        }
        due.thrown("the 15th undo", Due.STATE, () -> x.undo());
        x.let(0, 0);
        x.set(0, 30);
        due.is("an action by which nothing becomes different is one", 1, x.undo());
        due.is("the plot is let still", 0, x.plot(0, 0));
        due.is("undo of let", 0, x.undo());
        due.is("the plot is free", -1, x.plot(0, 0));
    }

    private static void undoOfEachAction() {
        PlotLeases x = Due.full();
        x.bury(0);
        x.claim(3, 9);
        x.ask(9);
        String before = picture(x);
        x.ask(8);
        x.bury(0);
        x.renew(1, 3);
        x.claim(6, 0);
        x.settle(3, true);
        x.dig(0, 1);
        x.set(4, 9);
        x.run(50);
        x.clear(0);
        x.let(2, 22);
        for (int i = 0; i < 10; i++) {
            x.undo();
        }
        due.is("all is as before:\n" + before + picture(x), 1, before.equals(picture(x)) ? 1 : 0);
    }

    private static void refusedCallsChangeNothing() {
        PlotLeases x = new PlotLeases();
        x.let(0, 0);
        String before = picture(x);
        due.thrown("let", Due.STATE, () -> x.let(1, 0));
        due.thrown("bury", Due.STATE, () -> x.bury(1));
        due.thrown("renew", Due.STATE, () -> x.renew(1, 1));
        due.thrown("claim", Due.STATE, () -> x.claim(1, 1));
        due.thrown("settle", Due.STATE, () -> x.settle(0, true));
        due.thrown("clear", Due.STATE, () -> x.clear(0));
        due.thrown("dig", Due.ARGUMENT, () -> x.dig(0, 4));
        due.thrown("run", Due.ARGUMENT, () -> x.run(100));
        due.thrown("set", Due.ARGUMENT, () -> x.set(0, 0));
        due.is("nothing is changed", 1, before.equals(picture(x)) ? 1 : 0);
        due.is("no state is remembered of them", 0, x.undo());
    }

    private static String picture(PlotLeases x) {
        StringBuilder all = new StringBuilder();
        for (int what = 0; what < 10; what++) {
            all.append(x.about(what)).append(' ');
        }
        for (int p = 0; p < 24; p++) {
            all.append(Due.register(x, p)).append(' ').append(x.burial(p, 0)).append(x.burial(p, 1)).append('\n');
        }
        for (int f = 0; f < 10; f++) {
            all.append(x.family(f, 3)).append(' ').append(x.family(f, 5)).append('\n');
        }
        for (int what = 0; what < 5; what++) {
            all.append(x.setting(what)).append(' ');
        }
        return all.toString();
    }
}
