/** Promises 1 and 6 to 13: a new object, about, plot, burial, family, waiting, line, depth, setting. */
final class ReadingTest {
    private static final int[] OUTSIDE = {Integer.MIN_VALUE, -1, 24, Integer.MAX_VALUE};

    private static final Due due = new Due();

    public static void main(String[] args) {
        newObject();
        about();
        aboutCounts();
        plot();
        plotWithout();
        statesInTheirOrder();
        burial();
        family();
        familyCounts();
        waiting();
        line();
        depthAndSetting();
        readingsChangeNothing();
        due.end();
    }

    private static void newObject() {
        due.says("Creates a ground whose plots are all free.");
        PlotLeases x = new PlotLeases();
        for (int what = 0; what < 10; what++) {
            due.is("about(" + what + ")", what == 1 ? 24 : 0, x.about(what));
        }
        int[] free = {-1, -1, 0, -1, -1, 0};
        for (int p = 0; p < 24; p++) {
            for (int what = 0; what < 6; what++) {
                due.is("plot(" + p + ", " + what + ")", free[what], x.plot(p, what));
            }
            due.is("burial(" + p + ", 0)", -1, x.burial(p, 0));
        }
        for (int f = 0; f < 10; f++) {
            for (int what = 0; what < 6; what++) {
                due.is("family(" + f + ", " + what + ")", what == 3 ? -1 : 0, x.family(f, what));
            }
        }
        due.is("waiting(0)", -1, x.waiting(0));
        int[] settings = {30, 20, 2, 10, 5};
        for (int what = 0; what < 5; what++) {
            due.is("setting " + what, settings[what], x.setting(what));
        }
        for (int row = 0; row < 4; row++) {
            due.is("depth " + row, 2, x.depth(row));
        }
        newObjectRemembersNothing();
    }

    private static void newObjectRemembersNothing() {
        PlotLeases x = new PlotLeases();
        for (int p = 0; p < 24; p++) {
            due.registerIs(x, p, "p" + p + " free");
        }
        due.is("errorPosition", 0, x.errorPosition());
        due.is("the text", 0, x.clearText());
        due.thrown("undo", Due.STATE, () -> x.undo());
        due.thrown("restore(0)", Due.STATE, () -> x.restore(0));
        due.thrown("restore(1)", Due.STATE, () -> x.restore(1));
        due.is("two objects are two grounds", 24, new PlotLeases().about(1) + x.about(0));
    }

    // ---- about

    private static void about() {
        due.says("Throws `IllegalArgumentException` if what is not 0 to 9");
        PlotLeases x = new PlotLeases();
        due.is("about(0)", 0, x.about(0));
        due.is("about(9)", 0, x.about(9));
        due.thrown("about(-1)", Due.ARGUMENT, () -> x.about(-1));
        due.thrown("about(10)", Due.ARGUMENT, () -> x.about(10));
        for (int what : OUTSIDE) {
            due.thrown("about(" + what + ")", Due.ARGUMENT, () -> x.about(what));
        }
    }

    /** Each number at nothing, at one, and at its most. */
    private static void aboutCounts() {
        due.says("0: the year; 1: the free plots; 2: the plots that have lapsed; 3: the plots that can be cleared;"
                + " 4: the plots in dispute; 5: those who wait; 6: the burials that lie in plots; 7: those in the"
                + " ossuary; 8: what was paid in fees so far, by families; 9: what the town paid for clearing so far");
        PlotLeases x = Grounds.full();
        for (int i = 0; i < 12; i++) {
            x.ask(9);
            due.is("those who wait", i + 1, x.about(5));
        }
        due.is("no plot is free", 0, x.about(1));
        for (int row = 0; row < 4; row++) {
            x.dig(row, 3);
        }
        for (int i = 0; i < 72; i++) {
            x.bury(i / 3);
            due.is("burials", i + 1, x.about(6));
        }
        for (int p = 0; p < 24; p++) {
            x.claim(p, 9);
            due.is("in dispute", p + 1, x.about(4));
        }
        due.is("paid by families", 24 * 60 + 72 * 10, x.about(8));
        x.run(30);
        due.is("the year", 30, x.about(0));
        due.is("all have lapsed", 24, x.about(2));
        due.is("none can be cleared", 0, x.about(3));
        for (int p = 0; p < 24; p++) {
            x.settle(p, true);
            due.is("can be cleared", p + 1, x.about(3));
        }
        for (int p = 0; p < 24; p++) {
            x.clear(p);
            due.is("free plots", p + 1, x.about(1));
            due.is("the ossuary", 3 * p + 3, x.about(7));
            due.is("paid by the town", 5 * p + 5, x.about(9));
        }
        due.is("no burials are left", 0, x.about(6));
        due.is("none has lapsed", 0, x.about(2));
        due.is("who was paid for does not matter", 24 * 60 + 72 * 10, x.about(8));
        due.is("run", 12, x.run(1));
        due.is("nobody waits", 0, x.about(5));
    }

    // ---- plot

    private static void plot() {
        due.says("Throws `IndexOutOfBoundsException` if there is no such plot Throws `IllegalArgumentException` if"
                + " what is not 0 to 5");
        PlotLeases x = new PlotLeases();
        for (int p : OUTSIDE) {
            due.thrown("plot(" + p + ", 0)", Due.INDEX, () -> x.plot(p, 0));
            due.thrown("plot(" + p + ", 6)", Due.INDEX, () -> x.plot(p, 6));
            due.thrown("plot(" + p + ", -1)", Due.INDEX, () -> x.plot(p, -1));
            due.thrown("plot(0, " + p + ")", Due.ARGUMENT, () -> x.plot(0, p));
        }
        due.thrown("plot(23, 6)", Due.ARGUMENT, () -> x.plot(23, 6));
        due.thrown("plot(23, -1)", Due.ARGUMENT, () -> x.plot(23, -1));
        x.let(9, 23);
        x.let(0, 0);
        due.is("plot(23, 0)", 9, x.plot(23, 0));
        due.is("plot(0, 0)", 0, x.plot(0, 0));
        due.is("plot(23, 5)", 1, x.plot(23, 5));
    }

    private static void plotWithout() {
        due.says("(0, 1, 3 and 4: NONE without one; 2: 0 if it is free)");
        PlotLeases x = Grounds.let(1, 1, 23);
        int[] unused = {1, 0, 0, -1, -1, 1};
        plotIs(x, 23, unused);
        x.bury(23);
        int[] used = {1, 1, 1, 0, -1, 1};
        plotIs(x, 23, used);
        x.claim(23, 0);
        int[] claimed = {1, 1, 1, 0, 0, 1};
        plotIs(x, 23, claimed);
        x.settle(23, true);
        x.run(1);
        x.bury(23);
        int[] settled = {0, 2, 2, 1, -1, 1};
        plotIs(x, 23, settled);
        x.run(2);
        x.clear(23);
        int[] free = {-1, -1, 0, -1, -1, 0};
        plotIs(x, 23, free);
        x.let(7, 23);
        int[] letAgain = {7, 3, 0, -1, -1, 1};
        plotIs(x, 23, letAgain);
        x.run(1);
        plotIs(x, 23, free);
        plotIs(x, 22, free);
    }

    private static void plotIs(PlotLeases x, int p, int[] want) {
        for (int what = 0; what < 6; what++) {
            due.is("plot(" + p + ", " + what + ") in the year " + x.about(0), want[what], x.plot(p, what));
        }
    }

    /** Plots 0 to 3 have burials and a rest that is longer than the lease; 1 is in dispute, as are 4 and 5. */
    private static void statesInTheirOrder() {
        due.says("5: its state: 0: free; 1: let, and not lapsed; 2: lapsed, and in dispute; 3: lapsed, and rests;"
                + " 4: it can be cleared (of several the first one that applies)");
        PlotLeases x = new PlotLeases();
        x.set(0, 3);
        x.set(1, 2);
        for (int p = 0; p < 7; p++) {
            x.let(1, p);
        }
        for (int p = 0; p < 4; p++) {
            x.bury(p);
        }
        x.set(1, 10);
        x.claim(1, 9);
        x.claim(4, 9);
        x.claim(5, 9);
        x.run(2);
        due.same("in the last year", "11111110", states(x));
        x.run(1);
        due.same("behind it", "32332200", states(x));
        x.settle(4, true);
        due.same("a lapsed one without burials, settled", "32334200", states(x));
        x.settle(1, false);
        due.same("one at rest, settled", "33334200", states(x));
        x.run(6);
        due.same("in the year 9", "33330200", states(x));
        x.claim(0, 9);
        x.run(1);
        due.same("in the year 10", "24440200", states(x));
        x.renew(2, 7);
        due.same("renewed up to 9", "24440200", states(x));
        x.renew(2, 1);
        due.same("renewed up to 10", "24140200", states(x));
        x.clear(3);
        due.same("cleared", "24100200", states(x));
        due.is("lapsed", 3, x.about(2));
        due.is("can be cleared", 1, x.about(3));
    }

    private static String states(PlotLeases x) {
        StringBuilder states = new StringBuilder();
        for (int p = 0; p < 8; p++) {
            states.append(x.plot(p, 5));
        }
        return states.toString();
    }

    // ---- burial

    private static void burial() {
        due.says("which burial, from 0, the earliest first Returns its year; NONE if there are not so many.");
        PlotLeases x = Grounds.let(99, 1, 23);
        x.dig(3, 3);
        due.is("none yet", -1, x.burial(23, 0));
        int[] years = {2, 2, 11};
        for (int k = 0; k < 3; k++) {
            while (x.about(0) < years[k]) {
                x.run(1);
            }
            x.bury(23);
            due.is("the last of " + (k + 1), years[k], x.burial(23, k));
            due.is("the first of " + (k + 1), 2, x.burial(23, 0));
            due.is("one more than " + (k + 1), -1, x.burial(23, k + 1));
        }
        due.is("burial(23, MAX)", -1, x.burial(23, Integer.MAX_VALUE));
        due.is("burial(23, 1000000000)", -1, x.burial(23, 1000000000));
        due.is("another plot", -1, x.burial(22, 0));
        due.is("a free plot", -1, x.burial(0, 0));
        due.says("Throws `IndexOutOfBoundsException` if there is no such plot Throws `IllegalArgumentException` if"
                + " k is negative");
        for (int p : OUTSIDE) {
            due.thrown("burial(" + p + ", 0)", Due.INDEX, () -> x.burial(p, 0));
            due.thrown("burial(" + p + ", -1)", Due.INDEX, () -> x.burial(p, -1));
        }
        due.thrown("burial(23, -1)", Due.ARGUMENT, () -> x.burial(23, -1));
        due.thrown("burial(0, MIN)", Due.ARGUMENT, () -> x.burial(0, Integer.MIN_VALUE));
    }

    // ---- family

    private static void family() {
        due.says("Throws `IndexOutOfBoundsException` if there is no such family Throws `IllegalArgumentException` if"
                + " what is not 0 to 5");
        PlotLeases x = new PlotLeases();
        for (int f : OUTSIDE) {
            due.thrown("family(" + f + ", 0)", Due.INDEX, () -> x.family(f, 0));
            due.thrown("family(" + f + ", 6)", Due.INDEX, () -> x.family(f, 6));
            due.thrown("family(0, " + f + ")", Due.ARGUMENT, () -> x.family(0, f));
        }
        due.thrown("family(10, 0)", Due.INDEX, () -> x.family(10, 0));
        due.thrown("family(10, -1)", Due.INDEX, () -> x.family(10, -1));
        due.thrown("family(9, 6)", Due.ARGUMENT, () -> x.family(9, 6));
        due.is("family(0, 0)", 0, x.family(0, 0));
        due.is("family(9, 5)", 0, x.family(9, 5));
    }

    private static void familyCounts() {
        due.says("0: its plots; 1: the burials that lie in them; 2: how often it waits; 3: how many stand ahead of the"
                + " first time that it waits, NONE if it does not; 4: the plots of which it is the claimant; 5: what"
                + " it paid so far");
        PlotLeases x = Grounds.full();
        int[] asking = {5, 9, 5, 1, 1, 1, 1, 1, 1, 1, 1, 0};
        for (int f : asking) {
            x.ask(f);
        }
        x.bury(0);
        x.bury(0);
        x.bury(2);
        x.bury(23);
        x.claim(0, 5);
        x.claim(23, 5);
        x.claim(15, 9);
        x.renew(1, 3);
        int[] family0 = {3, 3, 1, 11, 0, 180 + 30 + 6};
        int[] family1 = {3, 0, 8, 3, 0, 180};
        int[] family2 = {3, 0, 0, -1, 0, 180};
        int[] family5 = {3, 0, 2, 0, 2, 180};
        int[] family7 = {3, 1, 0, -1, 0, 190};
        int[] family8 = {0, 0, 0, -1, 0, 0};
        int[] family9 = {0, 0, 1, 1, 1, 0};
        familyIs(x, 0, family0);
        familyIs(x, 1, family1);
        familyIs(x, 2, family2);
        familyIs(x, 5, family5);
        familyIs(x, 7, family7);
        familyIs(x, 8, family8);
        familyIs(x, 9, family9);
        x.settle(0, true);
        x.settle(23, true);
        int[] behind = {5, 3, 2, 0, 0, 180};
        familyIs(x, 5, behind);
        int[] without = {2, 1, 1, 11, 0, 180 + 30 + 6};
        familyIs(x, 0, without);
        PlotLeases all = new PlotLeases();
        for (int p = 0; p < 24; p++) {
            all.let(9, p);
            all.claim(p, 0);
        }
        due.is("all plots", 24, all.family(9, 0));
        due.is("all claims", 24, all.family(0, 4));
    }

    private static void familyIs(PlotLeases x, int f, int[] want) {
        for (int what = 0; what < 6; what++) {
            due.is("family(" + f + ", " + what + ")", want[what], x.family(f, what));
        }
    }

    // ---- waiting

    private static void waiting() {
        due.says("which one, from 0, in the order in which they wait Returns the family; NONE if there are not so"
                + " many. Throws `IllegalArgumentException` if k is negative");
        PlotLeases x = Grounds.full();
        due.is("nobody waits", -1, x.waiting(0));
        for (int i = 0; i < 12; i++) {
            x.ask((7 * i + 9) % 10);
            due.is("the first one", 9, x.waiting(0));
            due.is("the last one of " + (i + 1), (7 * i + 9) % 10, x.waiting(i));
            due.is("one more than " + (i + 1), -1, x.waiting(i + 1));
        }
        for (int k = 0; k < 12; k++) {
            due.is("waiting(" + k + ")", (7 * k + 9) % 10, x.waiting(k));
        }
        due.is("waiting(13)", -1, x.waiting(13));
        due.is("waiting(MAX)", -1, x.waiting(Integer.MAX_VALUE));
        due.thrown("waiting(-1)", Due.ARGUMENT, () -> x.waiting(-1));
        due.thrown("waiting(MIN)", Due.ARGUMENT, () -> x.waiting(Integer.MIN_VALUE));
        x.run(30);
        due.is("those who waited have plots", -1, x.waiting(0));
        due.thrown("waiting(-1) when nobody waits", Due.ARGUMENT, () -> x.waiting(-1));
    }

    // ---- line

    private static void line() {
        due.says("Returns the code of this character; NONE if the line is not so long.");
        PlotLeases x = new PlotLeases();
        due.is("line(0, 0)", 'p', x.line(0, 0));
        due.is("line(0, 2)", ' ', x.line(0, 2));
        due.is("line(0, 6)", 'e', x.line(0, 6));
        due.is("line(0, 7)", -1, x.line(0, 7));
        due.is("line(23, 7)", 'e', x.line(23, 7));
        due.is("line(23, 8)", -1, x.line(23, 8));
        due.is("line(0, MAX)", -1, x.line(0, Integer.MAX_VALUE));
        x.let(9, 23);
        due.is("line(23, 12), the last one", '9', x.line(23, 12));
        due.is("line(23, 13)", -1, x.line(23, 13));
        x.claim(23, 4);
        x.run(30);
        due.is("line(23, 15), the last one", '4', x.line(23, 15));
        due.is("line(23, 16)", -1, x.line(23, 16));
        due.is("line(0, 7) behind it", -1, x.line(0, 7));
        due.says("Throws `IndexOutOfBoundsException` if there is no such plot Throws `IllegalArgumentException` if"
                + " i is negative");
        for (int p : OUTSIDE) {
            due.thrown("line(" + p + ", 0)", Due.INDEX, () -> x.line(p, 0));
            due.thrown("line(" + p + ", -1)", Due.INDEX, () -> x.line(p, -1));
        }
        due.thrown("line(0, -1)", Due.ARGUMENT, () -> x.line(0, -1));
        due.thrown("line(23, MIN)", Due.ARGUMENT, () -> x.line(23, Integer.MIN_VALUE));
    }

    // ---- depth, setting

    private static void depthAndSetting() {
        due.says("Throws `IndexOutOfBoundsException` if there is no such row");
        PlotLeases x = new PlotLeases();
        for (int row = 0; row < 4; row++) {
            x.dig(row, 1 + row % 3);
        }
        for (int row = 0; row < 4; row++) {
            due.is("depth(" + row + ")", 1 + row % 3, x.depth(row));
        }
        due.thrown("depth(-1)", Due.INDEX, () -> x.depth(-1));
        due.thrown("depth(4)", Due.INDEX, () -> x.depth(4));
        due.says("Returns that setting. Throws `IllegalArgumentException` if what is out of range");
        for (int what = 0; what < 5; what++) {
            x.set(what, 50 + what);
        }
        for (int what = 0; what < 5; what++) {
            due.is("setting(" + what + ")", 50 + what, x.setting(what));
        }
        due.thrown("setting(-1)", Due.ARGUMENT, () -> x.setting(-1));
        due.thrown("setting(5)", Due.ARGUMENT, () -> x.setting(5));
        for (int outside : OUTSIDE) {
            due.thrown("depth(" + outside + ")", Due.INDEX, () -> x.depth(outside));
            due.thrown("setting(" + outside + ")", Due.ARGUMENT, () -> x.setting(outside));
        }
    }

    /** Only actions change the state: what there is can be asked as often as one likes. */
    private static void readingsChangeNothing() {
        due.says("The methods in the section \"actions\" change the state, which consists of everything but the text and"
                + " the save slots.");
        Twin twin = new Twin(due, Grounds::rich);
        twin.keeps("about(8)", 24 * 60 + 40, x -> x.about(8));
        twin.keeps("plot(0, 5)", 1, x -> x.plot(0, 5));
        twin.keeps("burial(0, 1)", 0, x -> x.burial(0, 1));
        twin.keeps("family(9, 3)", 0, x -> x.family(9, 3));
        twin.keeps("waiting(1)", 8, x -> x.waiting(1));
        twin.keeps("line(3, 0)", 'p', x -> x.line(3, 0));
        twin.keeps("depth(1)", 3, x -> x.depth(1));
        twin.keeps("setting(4)", 7, x -> x.setting(4));
        twin.keeps("errorPosition()", -1, x -> x.errorPosition());
    }
}
