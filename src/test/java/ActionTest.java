/** Promises 14 to 24: ask, let, bury, renew, claim, settle, clear, dig, run, set, undo; and ACTIONS AND UNDO. */
final class ActionTest {
    private static final Due due = new Due();

    public static void main(String[] args) {
        ask();
        askAtTwelve();
        let();
        bury();
        buryUpToTheDepth();
        renew();
        renewOfDisputedAndFree();
        claim();
        settle();
        clear();
        clearServesNobody();
        dig();
        run();
        set();
        undo();
        eachCallIsAnAction();
        undoIsNone();
        fourteenStates();
        loadAndRestoreAreNone();
        stateWithoutTextAndSlots();
        undoOfEachAction();
        due.end();
    }

    // ---- ask, let

    private static void ask() {
        due.says("Returns the plot that it gets; NONE if it waits.");
        PlotLeases x = new PlotLeases();
        for (int p = 0; p < 24; p++) {
            due.is("ask " + p, p, x.ask(p / 6));
        }
        due.is("ask of a full ground", -1, x.ask(9));
        due.is("9 waits", 1, x.family(9, 2));
        due.says("Throws `IndexOutOfBoundsException` if there is no such family");
        PlotLeases y = new PlotLeases();
        int[] outside = {Integer.MIN_VALUE, -1, 10, Integer.MAX_VALUE};
        for (int f : outside) {
            due.thrown("ask(" + f + ")", Due.INDEX, () -> y.ask(f));
        }
        due.is("ask(0)", 0, y.ask(0));
        due.is("ask(9)", 1, y.ask(9));
        due.is("its last year", 29, y.plot(1, 1));
        due.is("what it paid", 60, y.family(9, 5));
    }

    private static void askAtTwelve() {
        due.says("Throws `IllegalStateException` if there is no free plot, and 12 wait");
        PlotLeases x = Grounds.waited(11);
        due.is("ask though 11 wait", -1, x.ask(0));
        due.thrown("ask though 12 wait", Due.STATE, () -> x.ask(0));
        due.thrown("ask of one who waits, though 12 wait", Due.STATE, () -> x.ask(9));
        due.thrown("ask(10) though 12 wait", Due.INDEX, () -> x.ask(10));
        due.thrown("ask(-1) though 12 wait", Due.INDEX, () -> x.ask(-1));
        due.is("those who wait", 12, x.about(5));
        due.is("the last one", 0, x.waiting(11));
        PlotLeases y = Grounds.clearable(12, 5);
        due.thrown("12 wait, and none is free", Due.STATE, () -> y.ask(0));
        y.clear(5);
        due.is("12 wait, but a plot is free", 5, y.ask(0));
        due.thrown("12 wait, and none is free again", Due.STATE, () -> y.ask(0));
        due.is("12 wait still", 12, y.about(5));
    }

    private static void let() {
        due.says("Lets a plot to a family, as if it got it by asking.",
                "Returns the last year of its lease.");
        PlotLeases x = new PlotLeases();
        x.run(7);
        x.set(0, 5);
        x.set(2, 3);
        due.is("let(9, 23)", 11, x.let(9, 23));
        due.is("what 9 paid", 15, x.family(9, 5));
        due.is("its burials", 0, x.plot(23, 2));
        due.is("its state", 1, x.plot(23, 5));
        due.says("Throws `IndexOutOfBoundsException` if there is no such family or plot Throws `IllegalStateException`"
                + " if the plot is not free");
        int[] families = {Integer.MIN_VALUE, -1, 10, Integer.MAX_VALUE};
        for (int f : families) {
            due.thrown("let(" + f + ", 0)", Due.INDEX, () -> x.let(f, 0));
            due.thrown("let(" + f + ", 23)", Due.INDEX, () -> x.let(f, 23));
            due.thrown("let(" + f + ", 24)", Due.INDEX, () -> x.let(f, 24));
        }
        int[] plots = {Integer.MIN_VALUE, -1, 24, Integer.MAX_VALUE};
        for (int p : plots) {
            due.thrown("let(0, " + p + ")", Due.INDEX, () -> x.let(0, p));
        }
        due.thrown("let(9, 23) again", Due.STATE, () -> x.let(9, 23));
        due.thrown("let(0, 23)", Due.STATE, () -> x.let(0, 23));
        x.claim(23, 0);
        x.run(5);
        due.thrown("let of a lapsed one", Due.STATE, () -> x.let(0, 23));
        x.settle(23, false);
        due.thrown("let of one that can be cleared", Due.STATE, () -> x.let(0, 23));
        x.clear(23);
        due.is("let of one that is cleared", 16, x.let(0, 23));
        due.is("let(0, 0)", 16, x.let(0, 0));
        letWhoeverWaits();
    }

    private static void letWhoeverWaits() {
        due.says("Lets a plot to a family, as if it got it by asking.");
        PlotLeases x = Grounds.clearable(1, 0);
        x.clear(0);
        due.is("let whoever waits", 59, x.let(7, 0));
        due.is("9 waits still", 9, x.waiting(0));
        x.undo();
        due.is("let to the one who waits", 59, x.let(9, 0));
        due.is("it waits still", 1, x.family(9, 2));
    }

    // ---- bury

    private static void bury() {
        due.says("Buries somebody in a plot; its family pays.",
                "Returns the last year of its lease then.");
        PlotLeases x = new PlotLeases();
        x.let(2, 0);
        due.is("the last year of its lease then", 29, x.bury(0));
        due.is("what 2 paid", 70, x.family(2, 5));
        x.claim(0, 3);
        x.settle(0, true);
        due.is("bury for 3", 29, x.bury(0));
        due.is("what 3 paid", 10, x.family(3, 5));
        due.is("what 2 paid then", 70, x.family(2, 5));
        int[] plots = {Integer.MIN_VALUE, -1, 24, Integer.MAX_VALUE};
        for (int p : plots) {
            due.thrown("bury(" + p + ")", Due.INDEX, () -> x.bury(p));
        }
        due.says("Throws `IllegalStateException` if the plot is free, has lapsed, is in dispute, or has as many burials as"
                + " the depth of its row (or more)");
        due.thrown("bury in a free plot", Due.STATE, () -> x.bury(23));
        x.let(4, 23);
        x.claim(23, 5);
        due.thrown("bury in dispute", Due.STATE, () -> x.bury(23));
        x.settle(23, false);
        x.run(29);
        due.is("bury in the last year", 49, x.bury(23));
        x.run(20);
        due.is("bury in the last year then", 69, x.bury(23));
        x.dig(3, 3);
        x.run(21);
        due.thrown("bury when it has lapsed", Due.STATE, () -> x.bury(23));
        x.renew(23, 1);
        due.is("bury when it is renewed", 90, x.bury(23));
    }

    private static void buryUpToTheDepth() {
        due.says("or has as many burials as the depth of its row (or more)");
        PlotLeases x = new PlotLeases();
        x.let(2, 6);
        x.dig(1, 1);
        due.is("the first one of one", 29, x.bury(6));
        due.thrown("a second one of one", Due.STATE, () -> x.bury(6));
        x.dig(1, 2);
        due.is("the second one of two", 29, x.bury(6));
        due.thrown("a third one of two", Due.STATE, () -> x.bury(6));
        x.dig(1, 3);
        due.is("the third one of three", 29, x.bury(6));
        due.thrown("a fourth one of three", Due.STATE, () -> x.bury(6));
        x.dig(1, 2);
        due.thrown("three in two layers", Due.STATE, () -> x.bury(6));
        x.dig(1, 1);
        due.thrown("three in one layer", Due.STATE, () -> x.bury(6));
        due.is("the burials", 3, x.plot(6, 2));
        due.is("what was paid", 60 + 30, x.about(8));
    }

    // ---- renew

    private static void renew() {
        due.says("`years`: 1 to 99",
                "Renews a lease, lapsed or not: its last year becomes later by some years, for each of which the fee"
                + " of a year is paid.");
        PlotLeases x = new PlotLeases();
        x.let(1, 0);
        x.bury(0);
        due.is("renew(0, 1)", 30, x.renew(0, 1));
        due.is("what 1 paid", 70 + 2, x.family(1, 5));
        due.is("renew(0, 99)", 129, x.renew(0, 99));
        due.is("what 1 paid then", 70 + 200, x.family(1, 5));
        due.thrown("renew(0, 0)", Due.ARGUMENT, () -> x.renew(0, 0));
        due.thrown("renew(0, -1)", Due.ARGUMENT, () -> x.renew(0, -1));
        due.thrown("renew(0, 100)", Due.ARGUMENT, () -> x.renew(0, 100));
        due.thrown("renew(0, MAX)", Due.ARGUMENT, () -> x.renew(0, Integer.MAX_VALUE));
        due.thrown("renew(0, MIN)", Due.ARGUMENT, () -> x.renew(0, Integer.MIN_VALUE));
        x.run(99);
        x.run(51);
        due.is("renew of a lapsed one", 134, x.renew(0, 5));
        due.is("it has lapsed still", 4, x.plot(0, 5));
        due.is("up to the year ahead of now", 149, x.renew(0, 15));
        due.is("it has lapsed still", 4, x.plot(0, 5));
        due.is("up to now", 150, x.renew(0, 1));
        due.is("it has not lapsed", 1, x.plot(0, 5));
        x.set(2, 0);
        int paid = x.family(1, 5);
        due.is("a fee of nothing", 151, x.renew(0, 1));
        due.is("what 1 paid at last", paid, x.family(1, 5));
    }

    private static void renewOfDisputedAndFree() {
        due.says("Throws `IndexOutOfBoundsException` if there is no such plot Throws `IllegalArgumentException` if years"
                + " is out of range Throws `IllegalStateException` if the plot is free, or in dispute");
        PlotLeases x = new PlotLeases();
        int[] plots = {Integer.MIN_VALUE, -1, 24, Integer.MAX_VALUE};
        for (int p : plots) {
            due.thrown("renew(" + p + ", 1)", Due.INDEX, () -> x.renew(p, 1));
            due.thrown("renew(" + p + ", 0)", Due.INDEX, () -> x.renew(p, 0));
            due.thrown("renew(" + p + ", 100)", Due.INDEX, () -> x.renew(p, 100));
        }
        due.thrown("renew of a free one by 0", Due.ARGUMENT, () -> x.renew(23, 0));
        due.thrown("renew of a free one by 100", Due.ARGUMENT, () -> x.renew(23, 100));
        due.thrown("renew of a free one", Due.STATE, () -> x.renew(23, 1));
        x.let(1, 23);
        x.claim(23, 2);
        due.thrown("renew in dispute by 100", Due.ARGUMENT, () -> x.renew(23, 100));
        due.thrown("renew in dispute", Due.STATE, () -> x.renew(23, 1));
        x.run(50);
        due.thrown("renew of a lapsed one in dispute", Due.STATE, () -> x.renew(23, 1));
        x.settle(23, true);
        due.is("renew when it is settled", 30, x.renew(23, 1));
        due.is("the new family pays", 2, x.family(2, 5));
        due.is("the old one does not", 60, x.family(1, 5));
    }

    // ---- claim, settle

    private static void claim() {
        due.says("A family claims a plot: it is in dispute then.",
                "Returns the plots in dispute then.");
        PlotLeases x = Grounds.full();
        for (int p = 0; p < 24; p++) {
            due.is("claim(" + p + ", 9)", p + 1, x.claim(p, 9));
            due.is("the claimant of " + p, 9, x.plot(p, 4));
        }
        due.says("Throws `IndexOutOfBoundsException` if there is no such plot or family Throws `IllegalStateException` if"
                + " the plot is free, let to f, or in dispute");
        PlotLeases y = new PlotLeases();
        int[] families = {Integer.MIN_VALUE, -1, 10, Integer.MAX_VALUE};
        for (int f : families) {
            due.thrown("claim(0, " + f + ")", Due.INDEX, () -> y.claim(0, f));
        }
        int[] plots = {Integer.MIN_VALUE, -1, 24, Integer.MAX_VALUE};
        for (int p : plots) {
            due.thrown("claim(" + p + ", 0)", Due.INDEX, () -> y.claim(p, 0));
            due.thrown("claim(" + p + ", 10)", Due.INDEX, () -> y.claim(p, 10));
        }
        due.thrown("claim of a free plot", Due.STATE, () -> y.claim(23, 0));
        y.let(9, 23);
        due.thrown("claim by its family", Due.STATE, () -> y.claim(23, 9));
        due.is("claim(23, 0)", 1, y.claim(23, 0));
        due.thrown("claim in dispute", Due.STATE, () -> y.claim(23, 1));
        due.thrown("claim by the claimant", Due.STATE, () -> y.claim(23, 0));
        due.thrown("claim in dispute by its family", Due.STATE, () -> y.claim(23, 9));
        due.is("the claimant", 0, y.plot(23, 4));
        y.settle(23, true);
        due.thrown("claim by the family that won", Due.STATE, () -> y.claim(23, 0));
        due.is("claim by the one that lost", 1, y.claim(23, 9));
        y.run(31);
        y.settle(23, false);
        due.is("claim of a lapsed one", 1, y.claim(23, 8));
        due.is("its state", 2, y.plot(23, 5));
    }

    private static void settle() {
        due.says("`wins`: whether the plot is let to the claimant then, with its lease and its burials as they are"
                + " Returns the family to which it is let then.");
        PlotLeases x = Grounds.let(9, 8, 0);
        x.let(2, 23);
        x.bury(0);
        x.run(1);
        x.bury(23);
        x.claim(0, 9);
        x.claim(23, 0);
        due.is("the claimant wins", 9, x.settle(0, true));
        due.registerIs(x, 0, "p0 f9 1/2 8");
        due.is("its burial", 0, x.burial(0, 0));
        due.is("the claimant does not win", 2, x.settle(23, false));
        due.registerIs(x, 23, "p23 f2 1/2 9");
        due.is("its burial", 1, x.burial(23, 0));
        due.is("none is in dispute", 0, x.about(4));
        due.is("9 paid nothing", 0, x.family(9, 5));
        due.is("1 paid its lease and a burial", 28, x.family(1, 5));
        due.says("Throws `IndexOutOfBoundsException` if there is no such plot Throws `IllegalStateException` if it is not"
                + " in dispute");
        int[] plots = {Integer.MIN_VALUE, -1, 24, Integer.MAX_VALUE};
        for (int p : plots) {
            due.thrown("settle(" + p + ", true)", Due.INDEX, () -> x.settle(p, true));
            due.thrown("settle(" + p + ", false)", Due.INDEX, () -> x.settle(p, false));
        }
        due.thrown("settle of a free plot", Due.STATE, () -> x.settle(1, true));
        due.thrown("settle without a dispute", Due.STATE, () -> x.settle(23, false));
        due.thrown("settle again", Due.STATE, () -> x.settle(0, true));
        x.claim(23, 9);
        due.thrown("settle of another one", Due.STATE, () -> x.settle(0, true));
        x.run(30);
        due.is("settle of a lapsed one", 9, x.settle(23, true));
    }

    // ---- clear

    private static void clear() {
        due.says("Returns how many burials come to the ossuary.");
        PlotLeases x = Grounds.let(2, 2, 0);
        x.dig(0, 3);
        x.let(3, 1);
        for (int p = 2; p < 5; p++) {
            x.let(2, p);
            for (int k = 1; k < p; k++) {
                x.bury(p);
            }
        }
        x.claim(0, 9);
        x.run(3);
        x.settle(0, false);
        due.is("no burials", 0, x.clear(0));
        for (int p = 2; p < 5; p++) {
            due.is("clear(" + p + ")", p - 1, x.clear(p));
        }
        due.is("the ossuary", 6, x.about(7));
        due.is("the town paid for four", 20, x.about(9));
        due.says("Throws `IndexOutOfBoundsException` if there is no such plot Throws `IllegalStateException` if it cannot"
                + " be cleared");
        int[] plots = {Integer.MIN_VALUE, -1, 24, Integer.MAX_VALUE};
        for (int p : plots) {
            due.thrown("clear(" + p + ")", Due.INDEX, () -> x.clear(p));
        }
        due.thrown("clear again", Due.STATE, () -> x.clear(4));
        due.thrown("clear of one that is free as a year went by", Due.STATE, () -> x.clear(1));
        x.let(9, 23);
        due.thrown("clear of one that is let", Due.STATE, () -> x.clear(23));
    }

    private static void clearServesNobody() {
        due.says("Clears a plot (those who wait get plots only as a year goes by).");
        PlotLeases x = Grounds.clearable(2, 23);
        due.is("clear(23)", 1, x.clear(23));
        due.is("the plot is free", 1, x.about(1));
        due.is("two wait", 2, x.about(5));
        due.is("a year goes by", 1, x.run(1));
        due.is("the first one has it", 9, x.plot(23, 0));
        due.is("one waits", 1, x.about(5));
    }

    // ---- dig, run, set

    private static void dig() {
        due.says("`row`: 0 to 3 - `depth`: 1 to 3 Returns the previous depth.");
        PlotLeases x = new PlotLeases();
        due.is("dig(0, 1)", 2, x.dig(0, 1));
        due.is("dig(0, 3)", 1, x.dig(0, 3));
        due.is("dig(3, 3)", 2, x.dig(3, 3));
        due.is("dig(3, 3) again", 3, x.dig(3, 3));
        due.says("Changes the depth of a row; burials stay, even if they are more.");
        x.let(1, 5);
        x.bury(5);
        x.bury(5);
        x.bury(5);
        due.is("dig(0, 1) over three burials", 3, x.dig(0, 1));
        due.is("burials stay", 3, x.plot(5, 2));
        due.is("the latest too", 0, x.burial(5, 2));
        due.registerIs(x, 5, "p5 f1 3/1 29");
        x.run(30);
        due.is("all of them come to the ossuary", 3, x.clear(5));
        due.says("Throws `IndexOutOfBoundsException` if there is no such row Throws `IllegalArgumentException` if depth is"
                + " out of range");
        int[] rows = {Integer.MIN_VALUE, -1, 4, Integer.MAX_VALUE};
        for (int row : rows) {
            due.thrown("dig(" + row + ", 1)", Due.INDEX, () -> x.dig(row, 1));
            due.thrown("dig(" + row + ", 0)", Due.INDEX, () -> x.dig(row, 0));
            due.thrown("dig(" + row + ", 4)", Due.INDEX, () -> x.dig(row, 4));
        }
        int[] depths = {Integer.MIN_VALUE, -1, 0, 4, Integer.MAX_VALUE};
        for (int depth : depths) {
            due.thrown("dig(0, " + depth + ")", Due.ARGUMENT, () -> x.dig(0, depth));
            due.thrown("dig(3, " + depth + ")", Due.ARGUMENT, () -> x.dig(3, depth));
        }
    }

    private static void run() {
        due.says("`n`: 1 to 99 Returns how many families that waited get a plot in them."
                + " Throws `IllegalArgumentException` if n is out of range");
        PlotLeases x = new PlotLeases();
        int[] outside = {Integer.MIN_VALUE, -1, 0, 100, Integer.MAX_VALUE};
        for (int n : outside) {
            due.thrown("run(" + n + ")", Due.ARGUMENT, () -> x.run(n));
        }
        due.is("run(1) without anybody who waits", 0, x.run(1));
        due.is("run(99)", 0, x.run(99));
        due.is("the year", 100, x.about(0));
        for (int wait = 0; wait <= 12; wait++) {
            PlotLeases y = Grounds.full();
            for (int i = 0; i < wait; i++) {
                y.ask(i % 10);
            }
            due.is(wait + " wait in vain", 0, y.run(29));
            due.is(wait + " get plots", wait, y.run(1));
            due.is(wait + " got plots", 0, y.run(1));
        }
    }

    private static void set() {
        due.says("`what`: 0 to 4 - `v`: the new value, in its range Returns the previous one."
                + " Throws `IllegalArgumentException` if what or v is out of range");
        int[] lowest = {1, 1, 0, 0, 0};
        int[] highest = {99, 60, 99, 99, 99};
        int[] first = {30, 20, 2, 10, 5};
        PlotLeases x = new PlotLeases();
        for (int i = 0; i < 5; i++) {
            int what = i;
            int[] outside = {Integer.MIN_VALUE, lowest[what] - 1, highest[what] + 1, Integer.MAX_VALUE};
            for (int v : outside) {
                due.thrown("set(" + what + ", " + v + ")", Due.ARGUMENT, () -> x.set(what, v));
            }
            due.is("set to the lowest", first[what], x.set(what, lowest[what]));
            due.is("set to the highest", lowest[what], x.set(what, highest[what]));
            due.is("set to the same", highest[what], x.set(what, highest[what]));
        }
        int[] settings = {Integer.MIN_VALUE, -1, 5, Integer.MAX_VALUE};
        for (int what : settings) {
            due.thrown("set(" + what + ", 1)", Due.ARGUMENT, () -> x.set(what, 1));
            due.thrown("set(" + what + ", 100)", Due.ARGUMENT, () -> x.set(what, 100));
        }
        for (int what = 0; what < 5; what++) {
            due.is("setting(" + what + ")", highest[what], x.setting(what));
        }
    }

    // ---- undo

    private static void undo() {
        due.says("Takes back the last action that is remembered. Returns how many states are still remembered."
                + " Throws `IllegalStateException` if none is remembered");
        PlotLeases x = new PlotLeases();
        due.thrown("undo of nothing", Due.STATE, () -> x.undo());
        x.run(1);
        x.run(2);
        x.run(3);
        for (int i = 2; i >= 0; i--) {
            due.is("undo", i, x.undo());
            due.is("the year", i * (i + 1) / 2, x.about(0));
        }
        due.thrown("undo of no more", Due.STATE, () -> x.undo());
        due.thrown("undo again", Due.STATE, () -> x.undo());
        x.run(4);
        due.is("undo behind it", 0, x.undo());
        due.is("the year then", 0, x.about(0));
    }

    private static void eachCallIsAnAction() {
        due.says("Each call of one of them that does not throw an exception is an action, also if nothing becomes different");
        PlotLeases x = new PlotLeases();
        x.let(1, 0);
        x.dig(0, 2);
        x.set(0, 30);
        x.set(4, 5);
        due.is("undo of set(4, 5)", 3, x.undo());
        due.is("undo of set(0, 30)", 2, x.undo());
        due.is("undo of dig(0, 2)", 1, x.undo());
        due.is("the plot is let still", 1, x.plot(0, 0));
        due.is("undo of let(1, 0)", 0, x.undo());
        due.is("the plot is free", -1, x.plot(0, 0));
        due.says("Each call of one of them that does not throw an exception");
        x.let(1, 0);
        due.thrown("let again", Due.STATE, () -> x.let(1, 0));
        due.thrown("bury in a free plot", Due.STATE, () -> x.bury(1));
        due.thrown("run(0)", Due.ARGUMENT, () -> x.run(0));
        due.thrown("dig(4, 1)", Due.INDEX, () -> x.dig(4, 1));
        due.is("only let is taken back", 0, x.undo());
        due.is("the plot is free again", -1, x.plot(0, 0));
    }

    private static void undoIsNone() {
        due.says("(undo is none)");
        PlotLeases x = new PlotLeases();
        x.run(1);
        x.run(1);
        due.is("undo", 1, x.undo());
        due.is("undo takes back no undo", 0, x.undo());
        due.is("the year", 0, x.about(0));
        due.thrown("nothing is remembered", Due.STATE, () -> x.undo());
        x.run(5);
        x.undo();
        x.run(7);
        due.is("undo behind an undo and an action", 0, x.undo());
        due.is("the year then", 0, x.about(0));
    }

    private static void fourteenStates() {
        due.says("At most 14 states are remembered; when one more is remembered, the oldest one is forgotten.");
        for (int actions = 12; actions <= 45; actions++) {
            PlotLeases x = new PlotLeases();
            for (int i = 0; i < actions; i++) {
                x.run(1);
            }
            int remembered = Math.min(14, actions);
            for (int i = 1; i <= remembered; i++) {
                due.is("undo " + i + " of " + actions, remembered - i, x.undo());
                due.is("the year then", actions - i, x.about(0));
            }
            due.thrown("undo of no more of " + actions, Due.STATE, () -> x.undo());
            due.is("the year stays", actions - remembered, x.about(0));
            x.run(3);
            due.is("undo of one more", 0, x.undo());
        }
        undoAndActionsByTurns();
    }

    private static void undoAndActionsByTurns() {
        due.says("the oldest one is forgotten");
        PlotLeases x = new PlotLeases();
        for (int i = 0; i < 16; i++) {
            x.run(1);
        }
        for (int i = 0; i < 5; i++) {
            x.undo();
        }
        for (int i = 0; i < 4; i++) {
            x.run(10);
        }
        due.is("9 of the old ones, and 4", 12, x.undo());
        for (int i = 0; i < 3; i++) {
            x.undo();
        }
        due.is("the year 11 is the last one of the old ones", 11, x.about(0));
        for (int i = 8; i >= 0; i--) {
            due.is("undo of an old one", i, x.undo());
        }
        due.is("the oldest one that is remembered", 2, x.about(0));
    }

    private static void loadAndRestoreAreNone() {
        due.says("load and restore are not actions.");
        PlotLeases x = Grounds.withText("run,5");
        x.run(1);
        x.load();
        due.thrown("undo behind load", Due.STATE, () -> x.undo());
        x.save(0);
        due.thrown("undo behind save", Due.STATE, () -> x.undo());
        x.run(1);
        x.save(1);
        x.restore(0);
        due.thrown("undo behind restore", Due.STATE, () -> x.undo());
        due.is("the year", 5, x.about(0));
    }

    private static void stateWithoutTextAndSlots() {
        due.says("which consists of everything but the text and the save slots");
        PlotLeases x = Grounds.withText("run,5");
        x.run(1);
        x.append(';');
        x.run(1);
        x.save(0);
        x.run(1);
        x.save(1);
        for (int i = 0; i < 3; i++) {
            x.undo();
        }
        due.is("the year", 0, x.about(0));
        due.is("the text stays", 6, x.errorPosition());
        due.is("its length", 6, x.clearText());
        due.is("slot 0 stays", 2, x.restore(0));
        due.is("slot 1 stays", 3, x.restore(1));
    }

    /** Every action is taken back, and all that methods answer is as it was. */
    private static void undoOfEachAction() {
        due.says("Before each action, the state is remembered.");
        takesBack("ask that gets a plot", x -> x.ask(9));
        takesBack("let", x -> x.let(9, 23));
        takesBack("bury", x -> x.bury(4));
        takesBack("bury that makes the lease longer", x -> x.bury(3));
        takesBack("renew", x -> x.renew(4, 3));
        takesBack("claim", x -> x.claim(4, 9));
        takesBack("settle, won", x -> x.settle(2, true));
        takesBack("settle, lost", x -> x.settle(2, false));
        takesBack("clear", x -> x.clear(0));
        takesBack("dig", x -> x.dig(0, 1));
        takesBack("run", x -> x.run(1));
        takesBack("run of many years", x -> x.run(99));
        for (int i = 0; i < 5; i++) {
            int what = i;
            takesBack("set", x -> x.set(what, 9));
        }
        String before = Twin.readings(Grounds.rich());
        PlotLeases x = Grounds.rich();
        x.ask(7);
        x.undo();
        due.same("undo of ask that waits", before, Twin.readings(x));
    }

    private static void takesBack(String action, Twin.Change change) {
        PlotLeases x = manyKinds();
        change.on(x);
        due.truth(action + " changes something", !Twin.readings(manyKinds()).equals(Twin.readings(x)));
        PlotLeases y = manyKinds();
        change.on(y);
        y.undo();
        due.same("the readings behind undo of " + action, Twin.readings(manyKinds()), Twin.readings(y));
        PlotLeases z = manyKinds();
        change.on(z);
        z.undo();
        due.same("the lines behind undo of " + action, Twin.lines(manyKinds()), Twin.lines(z));
    }

    /** 0 and 1 can be cleared, 2 is in dispute, 3 to 19 are in lease, 20 and 21 are new, 22 and 23 are free. */
    private static PlotLeases manyKinds() {
        PlotLeases x = Grounds.full();
        x.ask(9);
        x.bury(0);
        x.bury(1);
        x.bury(2);
        x.claim(2, 9);
        for (int p = 3; p < 20; p++) {
            x.renew(p, p == 4 ? 99 : 5);
        }
        x.run(30);
        x.set(2, 3);
        x.ask(8);
        x.bury(21);
        return x;
    }
}
