/** Promises 29 and 30: runScript, simulate. */
final class ScriptTest {
    private static final Due due = new Due();

    public static void main(String[] args) {
        ranges();
        commands();
        order();
        simulateByHand();
        simulatedDisputes();
        simulateAgainstCalls();
        due.end();
    }

    private static void ranges() {
        PlotLeases x = new PlotLeases();
        due.thrown("runScript(0, 0)", Due.ARGUMENT, () -> x.runScript(0, 0));
        due.thrown("runScript(4, 1000)", Due.ARGUMENT, () -> x.runScript(4, 1000));
        due.thrown("runScript(-1, 0)", Due.ARGUMENT, () -> x.runScript(-1, 0));
        due.thrown("runScript(1, -1)", Due.ARGUMENT, () -> x.runScript(1, -1));
        due.thrown("runScript(1, MIN)", Due.ARGUMENT, () -> x.runScript(1, Long.MIN_VALUE));
        due.thrown("runScript(1, 10000)", Due.ARGUMENT, () -> x.runScript(1, 10000));
        due.thrown("runScript(2, 100000000)", Due.ARGUMENT, () -> x.runScript(2, 100000000L));
        due.thrown("runScript(3, 10^12)", Due.ARGUMENT, () -> x.runScript(3, 1000000000000L));
        due.thrown("runScript(3, MAX)", Due.ARGUMENT, () -> x.runScript(3, Long.MAX_VALUE));
        due.is("runScript(3, 10^12 - 1)", 0, x.runScript(3, 999999999999L));
        due.is("runScript(1, 9999)", 0, x.runScript(1, 9999));
        due.is("runScript(3, 0)", 0, x.runScript(3, 0));
        due.thrown("simulate(0, 0)", Due.ARGUMENT, () -> x.simulate(0, 0));
        due.thrown("simulate(0, -1)", Due.ARGUMENT, () -> x.simulate(0, -1));
        due.thrown("simulate(0, 61)", Due.ARGUMENT, () -> x.simulate(0, 61));
    }

    private static void command(PlotLeases x, int group, boolean succeeds) {
        due.is("runScript(1, " + group + ")", succeeds ? -1 : 0, x.runScript(1, group));
    }

    private static void commands() {
        PlotLeases x = Due.loaded("let,3,1;bury,1;let,3,2;let,9,23;bury,23;bury,23;run,30");
        // 1 has lapsed and can be cleared, as can 23; 2 is free again
        x.let(4, 5);
        x.claim(5, 6);
        x.let(4, 4);
        x.claim(23, 1);
        command(x, 1900, true);
        command(x, 1910, false);
        command(x, 1901, false);
        command(x, 2902, true);
        command(x, 2901, false);
        command(x, 2924, false);
        command(x, 2999, false);
        command(x, 3004, true);
        command(x, 3104, false);
        command(x, 3005, false);
        command(x, 3001, false);
        command(x, 3024, false);
        command(x, 4001, true);
        command(x, 4101, false);
        command(x, 4023, false);
        command(x, 4004, false);
        command(x, 4099, false);
        command(x, 5604, true);
        command(x, 5404, false);
        command(x, 5605, false);
        command(x, 5602, false);
        command(x, 5624, false);
        command(x, 6001, true);
        command(x, 6099, true);
        command(x, 6000, false);
        command(x, 6101, false);
        command(x, 7301, true);
        command(x, 7923, true);
        command(x, 7923 - 100, false);
        command(x, 7002, false);
        command(x, 7924, false);
        command(x, 8002, true);
        command(x, 8104, true);
        command(x, 8223, true);
        command(x, 8401, true);
        command(x, 8301, false);
        command(x, 8901, false);
        command(x, 8024, false);
        command(x, 9000, true);
        command(x, 9099, true);
        command(x, 9100, false);
        command(x, 0, false);
        command(x, 999, false);
        x.set(1, 40);
        command(x, 8301, true);
        command(x, 4001, false);
        due.is("nothing is changed", 30, x.about(0));
        due.is("burials", 3, x.about(6));
        due.is("the register", 'f', x.line(4, 3));
    }

    private static void order() {
        PlotLeases x = new PlotLeases();
        due.is("let, bury, state", -1, x.runScript(3, 2105_3005_8105L));
        due.is("let, bury, run: the third fails", 2, x.runScript(3, 2105_3005_6000L));
        due.is("let, let: the second fails", 1, x.runScript(2, 2105_2105L));
        due.is("bury fails first", 0, x.runScript(3, 3005_2105_3005L));
        due.is("a group with zeros ahead", 0, x.runScript(2, 1100L));
        due.is("a group of zeros in the middle", 1, x.runScript(3, 1100_0000_1100L));
        due.is("on a copy", 24, x.about(1));
        due.thrown("no action", Due.STATE, () -> x.undo());
        for (int p = 0; p < 24; p++) {
            x.let(0, p);
        }
        for (int i = 0; i < 10; i++) {
            x.ask(1);
        }
        due.is("two asks have place", -1, x.runScript(3, 1100_1200_9012L));
        due.is("three asks have none", 2, x.runScript(3, 1100_1200_1300L));
        due.is("12 wait, not 11", 2, x.runScript(3, 1100_1200_9011L));
        due.is("10 wait", -1, x.runScript(1, 9010));
        due.is("10 wait, not 9", 0, x.runScript(1, 9009));
        due.is("they get plots in a run", -1, x.runScript(3, 6030_9000_7100L));
    }

    /**
     * By hand, r of the first turn: of seed 0 167951807, run(6); of 9 393447563 and of 57 1596091594, bury(1);
     * of 156 1929061260, clear(1).
     */
    private static void simulateByHand() {
        PlotLeases x = new PlotLeases();
        due.is("run in a new object", 0, x.simulate(0, 1));
        due.is("bury in a free plot", 0, x.simulate(9, 1));
        x.let(0, 1);
        x.bury(1);
        due.is("run", 100, x.simulate(0, 1));
        due.is("bury", 200, x.simulate(9, 1));
        due.is("bury, by 2", 200, x.simulate(57, 1));
        due.is("clear of what is let", 100, x.simulate(156, 1));
        x.run(30);
        due.is("bury in what has lapsed", 100, x.simulate(9, 1));
        due.is("clear", 1, x.simulate(156, 1));
        x.clear(1);
        due.is("one in the ossuary", 1, x.simulate(0, 1));
    }

    /**
     * By hand, of seed 264694: settle(0, true), claim(0, 3), bury(0); of 349906: settle(12, false), claim(12, 3),
     * bury(12). Nobody is buried if the claim is not left out.
     */
    private static void simulatedDisputes() {
        PlotLeases x = disputed(0, 1, 3);
        due.is("the claimant wins, so that its claim is left out", 100, x.simulate(264694, 3));
        PlotLeases y = disputed(0, 3, 1);
        due.is("the claimant wins, and the one before claims", 0, y.simulate(264694, 3));
        PlotLeases z = disputed(12, 3, 1);
        due.is("the claimant does not win", 100, z.simulate(349906, 3));
        PlotLeases w = disputed(12, 1, 3);
        due.is("the claimant does not win, and claims again", 0, w.simulate(349906, 3));
        due.is("no dispute is settled in the state itself", 1, x.about(4));
    }

    private static PlotLeases disputed(int p, int holder, int claimant) {
        PlotLeases x = new PlotLeases();
        x.let(holder, p);
        x.claim(p, claimant);
        return x;
    }

    /** The same turns as calls of the methods, on an object that is loaded with the same text. */
    private static void simulateAgainstCalls() {
        String text = "ask,0;ask,1;ask,2;ask,3;ask,4;ask,5;ask,6;ask,7;ask,8;ask,9;ask,0;ask,1;bury,1;bury,2;bury,3;dig,0,3;run,4";
        for (int i = 0; i < 300; i++) {
            long seed = i < 100 ? i : i < 200 ? Long.MAX_VALUE - i : -i * 1234567890123456789L;
            int m = 1 + i % 60;
            PlotLeases x = Due.loaded(text);
            due.is("simulate(" + seed + ", " + m + ")", byCalls(Due.loaded(text), seed, m), x.simulate(seed, m));
            due.is("the year stays", 4, x.about(0));
        }
    }

    private static long byCalls(PlotLeases x, long seed, int m) {
        long value = seed;
        for (int i = 0; i < m; i++) {
            value = value * 6364136223846793005L + 1442695040888963407L;
            int r = (int) (value >>> 33);
            try {
                turn(x, r, r / 8 % 24, r / 256 % 10);
            } catch (IllegalStateException e) {
                // it is left out
            }
        }
        return 100 * x.about(6) + x.about(7);
    }

    private static void turn(PlotLeases x, int r, int p, int f) {
        int kind = r % 8;
        if (kind < 2) {
            x.ask(f);
        } else if (kind < 4) {
            x.bury(p);
        } else if (kind == 4) {
            x.clear(p);
        } else if (kind == 5) {
            x.claim(p, f);
        } else if (kind == 6) {
            x.settle(p, r / 256 % 2 == 0);
        } else {
            x.run(1 + r / 8 % 30);
        }
    }
}
