/** Promises 29 and 30: runScript, simulate. */
final class ScriptTest {
    private static final Due due = new Due();

    public static void main(String[] args) {
        numberOfCommands();
        digitsOfAScript();
        zerosBeforeAScript();
        askAndLet();
        buryAndClear();
        claimGroup();
        runGroup();
        lookGroups();
        otherGroups();
        firstThatFails();
        askUpToTwelve();
        copyOfTheState();
        simulateRange();
        simulateByHand();
        simulatedDisputes();
        simulateAgainstCalls();
        due.end();
    }

    // ---- runScript

    private static void numberOfCommands() {
        due.says("A script has 1 to 3 commands",
                "`n`: number of commands, 1 to 3",
                "Throws `IllegalArgumentException` if n is out of range, or if script is negative or has more than 4 * n"
                + " digits");
        PlotLeases x = new PlotLeases();
        int[] outside = {Integer.MIN_VALUE, -1, 0, 4, 5, Integer.MAX_VALUE};
        for (int n : outside) {
            due.thrown("runScript(" + n + ", 0)", Due.ARGUMENT, () -> x.runScript(n, 0));
            due.thrown("runScript(" + n + ", 1000)", Due.ARGUMENT, () -> x.runScript(n, 1000));
            due.thrown("runScript(" + n + ", -1)", Due.ARGUMENT, () -> x.runScript(n, -1));
        }
        due.is("one command", -1, x.runScript(1, 1000));
        due.is("two commands", -1, x.runScript(2, 1000_1000L));
        due.is("three commands", -1, x.runScript(3, 1000_1000_1000L));
    }

    private static void digitsOfAScript() {
        due.says("the commands, a number of at most 4 * n digits (0 or more)");
        PlotLeases x = new PlotLeases();
        long firstTooLong = 1;
        for (int i = 1; i <= 3; i++) {
            int n = i;
            firstTooLong *= 10000;
            long above = firstTooLong;
            due.is("the greatest of " + n, 0, x.runScript(n, above - 1));
            due.thrown("one digit more than " + 4 * n, Due.ARGUMENT, () -> x.runScript(n, above));
            due.thrown("one more", Due.ARGUMENT, () -> x.runScript(n, above + 1));
            due.thrown("ten times", Due.ARGUMENT, () -> x.runScript(n, above * 10));
            due.thrown("MAX", Due.ARGUMENT, () -> x.runScript(n, Long.MAX_VALUE));
            due.thrown("2^62", Due.ARGUMENT, () -> x.runScript(n, 1L << 62));
            due.thrown("-1", Due.ARGUMENT, () -> x.runScript(n, -1));
            due.thrown("-1000", Due.ARGUMENT, () -> x.runScript(n, -1000));
            due.thrown("MIN", Due.ARGUMENT, () -> x.runScript(n, Long.MIN_VALUE));
            due.is("nothing but zeros", 0, x.runScript(n, 0));
        }
        due.thrown("2^32 + 1000, two commands", Due.ARGUMENT, () -> x.runScript(2, (1L << 32) + 1000));
        due.is("2^32 + 1000, three commands: 42 fails", 0, x.runScript(3, (1L << 32) + 1000));
    }

    private static void zerosBeforeAScript() {
        due.says("each is a group of four decimal digits d1 to d4, and the first command is the highest group of the number"
                + " (with zeros before it, if it has fewer digits)");
        PlotLeases x = new PlotLeases();
        due.is("four digits of eight: the first group is 0000", 0, x.runScript(2, 1000));
        due.is("four digits of twelve", 0, x.runScript(3, 1000));
        due.is("eight digits of twelve", 0, x.runScript(3, 1000_1000L));
        due.is("three digits of four: 0100", 0, x.runScript(1, 100));
        due.is("a group of zeros in the middle", 1, x.runScript(3, 1000_0000_1000L));
        due.is("zeros at the end", 2, x.runScript(3, 1000_1000_0000L));
        due.is("the highest group is the first one", -1, x.runScript(2, 2305_7305L));
        due.is("not the lowest one", 0, x.runScript(2, 7305_2305L));
    }

    private static void command(PlotLeases x, int group, boolean succeeds) {
        due.is("runScript(1, " + group + ")", succeeds ? -1 : 0, x.runScript(1, group));
    }

    private static void askAndLet() {
        due.says("1 f 0 0: ask(f). 2 f p p: let(f, pp).");
        PlotLeases x = new PlotLeases();
        x.let(3, 4);
        for (int f = 0; f < 10; f++) {
            command(x, 1000 + 100 * f, true);
            command(x, 1001 + 100 * f, false);
            command(x, 1010 + 100 * f, false);
            command(x, 1099 + 100 * f, false);
            command(x, 2000 + 100 * f, true);
            command(x, 2004 + 100 * f, false);
            command(x, 2023 + 100 * f, true);
            command(x, 2024 + 100 * f, false);
            command(x, 2099 + 100 * f, false);
        }
        command(Grounds.waited(11), 1500, true);
        command(Grounds.waited(12), 1500, false);
        due.is("ask gets the plot for the family", -1, x.runScript(2, 1300_7303L));
        due.is("let lets it", -1, x.runScript(3, 2923_7923_8123L));
    }

    private static void buryAndClear() {
        due.says("3 0 p p: bury(pp). 4 0 p p: clear(pp).");
        PlotLeases x = Grounds.loaded("let,3,1;bury,1;let,3,2;let,9,23;bury,23;bury,23;run,30");
        x.let(4, 5);
        x.let(4, 22);
        x.claim(5, 6);
        x.claim(23, 1);
        command(x, 3022, true);
        command(x, 3122, false);
        command(x, 3922, false);
        command(x, 3005, false);
        command(x, 3001, false);
        command(x, 3000, false);
        command(x, 3024, false);
        command(x, 3099, false);
        due.is("two burials", -1, x.runScript(2, 3022_3022L));
        due.is("a third one", 2, x.runScript(3, 3022_3022_3022L));
        command(x, 4001, true);
        command(x, 4101, false);
        command(x, 4901, false);
        command(x, 4023, false);
        command(x, 4022, false);
        command(x, 4000, false);
        command(x, 4024, false);
        command(x, 4099, false);
        due.is("clear twice", 1, x.runScript(2, 4001_4001L));
        due.is("cleared, it is free", -1, x.runScript(3, 4001_8001_2001L));
        x.set(1, 40);
        command(x, 4001, false);
    }

    private static void claimGroup() {
        due.says("5 f p p: claim(pp, f).");
        PlotLeases x = Grounds.loaded("let,0,0;let,9,23");
        for (int f = 0; f < 10; f++) {
            command(x, 5000 + 100 * f, f != 0);
            command(x, 5023 + 100 * f, f != 9);
            command(x, 5001 + 100 * f, false);
            command(x, 5024 + 100 * f, false);
            command(x, 5099 + 100 * f, false);
        }
        due.is("claim twice", 1, x.runScript(2, 5100_5200L));
        due.is("bury in dispute", 1, x.runScript(2, 5100_3000L));
        x.claim(0, 4);
        command(x, 5100, false);
    }

    private static void runGroup() {
        due.says("6 0 n n: run(nn).");
        PlotLeases x = Grounds.loaded("let,0,0;run,28");
        command(x, 6000, false);
        command(x, 6001, true);
        command(x, 6010, true);
        command(x, 6099, true);
        command(x, 6101, false);
        command(x, 6901, false);
        due.is("a year: the last one", -1, x.runScript(2, 6001_8100L));
        due.is("two years: free", -1, x.runScript(2, 6002_8000L));
        due.is("198 years", -1, x.runScript(3, 6099_6099_8000L));
        due.says("pp and nn are decimal numbers.");
        PlotLeases y = Grounds.let(11, 1, 10);
        due.is("ten years: its last one", -1, y.runScript(2, 6010_8110L));
        due.is("eleven years", -1, y.runScript(2, 6011_8010L));
        due.is("nine years", -1, y.runScript(3, 6009_6001_8110L));
        due.is("those who wait get plots", -1, Grounds.waited(12).runScript(3, 6030_9000_7900L));
    }

    private static void lookGroups() {
        due.says("7 f p p: succeeds if the plot pp is let to the family f. 8 s p p: succeeds if the state of the plot pp, as"
                + " plot(pp, 5) tells it, is s. 9 0 n n: succeeds if at most nn wait.");
        PlotLeases x = Grounds.loaded("let,3,1;bury,1;let,2,3;bury,3;let,9,23;bury,23;bury,23;run,30");
        x.let(4, 5);
        x.claim(23, 1);
        x.set(1, 30);
        x.run(1);
        x.bury(5);
        x.set(1, 40);
        int[] states = {0, 3, 0, 3, 0, 1, 0};
        for (int p = 0; p < states.length; p++) {
            for (int s = 0; s < 10; s++) {
                command(x, 8000 + 100 * s + p, s == states[p]);
            }
            for (int f = 0; f < 10; f++) {
                command(x, 7000 + 100 * f + p, p == 1 && f == 3 || p == 3 && f == 2 || p == 5 && f == 4);
            }
        }
        x.set(1, 31);
        command(x, 8401, true);
        command(x, 8301, false);
        command(x, 8223, true);
        command(x, 7923, true);
        command(x, 7123, false);
        due.says("commands with plots that do not exist fail");
        for (int digit = 0; digit < 10; digit++) {
            command(x, 7024 + 100 * digit, false);
            command(x, 7099 + 100 * digit, false);
            command(x, 8024 + 100 * digit, false);
            command(x, 8099 + 100 * digit, false);
        }
        atMostSoManyWait();
    }

    private static void atMostSoManyWait() {
        due.says("9 0 n n: succeeds if at most nn wait.");
        for (int wait = 0; wait <= 12; wait++) {
            PlotLeases x = Grounds.waited(wait);
            if (wait > 0) {
                command(x, 9000 + wait - 1, false);
            }
            command(x, 9000 + wait, true);
            command(x, 9000 + wait + 1, true);
            command(x, 9099, true);
            command(x, 9100 + wait, false);
            command(x, 9999, false);
        }
    }

    private static void otherGroups() {
        due.says("and so does any other group (also one with another digit where a 0 is written)");
        for (int digit = 0; digit < 10; digit++) {
            PlotLeases x = Grounds.loaded("let,1,1;let,0,0");
            for (int number = 0; number < 100; number++) {
                command(x, 100 * digit + number, false);
            }
        }
        PlotLeases z = Grounds.loaded("let,1,1;bury,1;run,30;let,1,2");
        for (int digit = 1; digit < 10; digit++) {
            command(z, 3002 + 100 * digit, false);
            command(z, 4001 + 100 * digit, false);
            command(z, 6001 + 100 * digit, false);
            command(z, 9012 + 100 * digit, false);
            command(z, 1000 + digit, false);
            command(z, 1000 + 10 * digit, false);
        }
        command(z, 3002, true);
        command(z, 4001, true);
    }

    private static void firstThatFails() {
        due.says("Returns the index, from 0, of the first command that fails; NONE if all succeed.");
        PlotLeases x = new PlotLeases();
        due.is("all succeed", -1, x.runScript(3, 2105_3005_8105L));
        due.is("the third one fails", 2, x.runScript(3, 2105_3005_6000L));
        due.is("the second one fails", 1, x.runScript(2, 2105_2105L));
        due.is("the second and the third one fail", 1, x.runScript(3, 2105_2105_2105L));
        due.is("the first one fails", 0, x.runScript(3, 3005_2105_3005L));
        due.is("all fail", 0, x.runScript(3, 3005_3005_3005L));
        due.is("the only one fails", 0, x.runScript(1, 3005));
    }

    private static void askUpToTwelve() {
        due.says("The commands 1 to 6 fail if the method would throw an exception");
        PlotLeases x = Grounds.waited(10);
        due.is("two asks have place", -1, x.runScript(3, 1100_1200_9012L));
        due.is("three asks have none", 2, x.runScript(3, 1100_1200_1300L));
        due.is("12 wait, not 11", 2, x.runScript(3, 1100_1200_9011L));
        PlotLeases y = Grounds.waited(11);
        due.is("the second one has none", 1, y.runScript(3, 1100_1200_9012L));
        PlotLeases z = Grounds.waited(12);
        due.is("the first one has none", 0, z.runScript(3, 1100_1200_9012L));
        due.is("in a year all leases end: one has", -1, z.runScript(3, 6030_1100_9000L));
    }

    private static void copyOfTheState() {
        due.says("Runs a script on a copy of the state.");
        Twin twin = new Twin(due, Grounds::rich);
        twin.keeps("runScript that succeeds", -1, x -> x.runScript(3, 3002_5904_6099L));
        twin.keeps("runScript that asks", -1, x -> x.runScript(3, 1100_1200_9004L));
        twin.keeps("runScript that fails", 1, x -> x.runScript(3, 6030_3001_6001L));
        twin.keeps("runScript that clears", -1, x -> x.runScript(2, 6028_4000L));
        due.says("Simulates m turns on a copy of the state.");
        for (int i = 0; i < 20; i++) {
            long seed = 77 * i;
            int want = (int) byCalls(Grounds.rich(), seed, 60);
            twin.keeps("simulate(" + seed + ", 60)", want, x -> x.simulate(seed, 60));
        }
    }

    // ---- simulate

    private static void simulateRange() {
        due.says("`m`: number of turns, 1 to 60",
                "Throws `IllegalArgumentException` if m is out of range");
        PlotLeases x = new PlotLeases();
        int[] outside = {Integer.MIN_VALUE, -1, 0, 61, Integer.MAX_VALUE};
        for (int m : outside) {
            due.thrown("simulate(0, " + m + ")", Due.ARGUMENT, () -> x.simulate(0, m));
            due.thrown("simulate(MIN, " + m + ")", Due.ARGUMENT, () -> x.simulate(Long.MIN_VALUE, m));
        }
        due.is("one turn, run", 0, x.simulate(0, 1));
        due.says("`seed`: any long");
        long[] seeds = {Long.MIN_VALUE, Long.MIN_VALUE + 1, -1, 0, 1, Long.MAX_VALUE - 1, Long.MAX_VALUE};
        for (long seed : seeds) {
            for (int m = 1; m <= 60; m++) {
                due.is("simulate(" + seed + ", " + m + ")", byCalls(Grounds.rich(), seed, m),
                        Grounds.rich().simulate(seed, m));
            }
        }
    }

    /**
     * By hand, r of the first turn: of seed 0 167951807, run(6); of 9 393447563 and of 57 1596091594, bury(1);
     * of 156 1929061260, clear(1).
     */
    private static void simulateByHand() {
        due.says("What would throw an exception is left out.");
        PlotLeases x = new PlotLeases();
        due.is("run in a new object", 0, x.simulate(0, 1));
        due.is("bury in a free plot", 0, x.simulate(9, 1));
        x.let(0, 1);
        x.bury(1);
        due.is("run", 100, x.simulate(0, 1));
        due.is("bury", 200, x.simulate(9, 1));
        due.is("bury, by 2", 200, x.simulate(57, 1));
        due.is("clear of what is let", 100, x.simulate(156, 1));
        x.run(30);
        due.is("bury in what has lapsed", 100, x.simulate(9, 1));
        due.says("Returns 100 * (the burials that lie in plots at the end) + (those in the ossuary at the end).");
        due.is("clear", 1, x.simulate(156, 1));
        x.clear(1);
        due.is("one in the ossuary", 1, x.simulate(0, 1));
        PlotLeases y = Grounds.full();
        for (int i = 0; i < 48; i++) {
            y.bury(i / 2);
        }
        due.is("48 burials", 4800, y.simulate(9, 1));
    }

    /**
     * By hand, of seed 264694: settle(0, true), claim(0, 3), bury(0); of 349906: settle(12, false), claim(12, 3),
     * bury(12). Nobody is buried if the claim is not left out.
     */
    private static void simulatedDisputes() {
        due.says("6: settle(p, r / 256 % 2 == 0).");
        PlotLeases x = disputed(0, 1, 3);
        due.is("the claimant wins, so that its claim is left out", 100, x.simulate(264694, 3));
        PlotLeases y = disputed(0, 3, 1);
        due.is("the claimant wins, and the one before claims", 0, y.simulate(264694, 3));
        PlotLeases z = disputed(12, 3, 1);
        due.is("the claimant does not win", 100, z.simulate(349906, 3));
        PlotLeases w = disputed(12, 1, 3);
        due.is("the claimant does not win, and claims again", 0, w.simulate(349906, 3));
        due.is("no dispute is settled in the state itself", 1, x.about(4));
    }

    private static PlotLeases disputed(int p, int holder, int claimant) {
        PlotLeases x = new PlotLeases();
        x.let(holder, p);
        x.claim(p, claimant);
        return x;
    }

    /** The same turns as calls of the methods, on an object that is loaded with the same text. */
    private static void simulateAgainstCalls() {
        due.says("Each turn first replaces x by x * 6364136223846793005L + 1442695040888963407L (with long overflow), and"
                + " r = (int) (x >>> 33) is computed. p is r / 8 % 24, f is r / 256 % 10.",
                "By r % 8: 0 and 1: ask(f). 2 and 3: bury(p). 4: clear(p). 5: claim(p, f). 6: settle(p, r / 256 % 2 == 0)."
                + " 7: run(1 + r / 8 % 30).");
        String text = "ask,0;ask,1;ask,2;ask,3;ask,4;ask,5;ask,6;ask,7;ask,8;ask,9;ask,0;ask,1;bury,1;bury,2;bury,3;dig,0,3;run,4";
        for (int i = 0; i < 300; i++) {
            long seed = i < 100 ? i : i < 200 ? Long.MAX_VALUE - i : -i * 1234567890123456789L;
            int m = 1 + i % 60;
            PlotLeases x = Grounds.loaded(text);
            due.is("simulate(" + seed + ", " + m + ")", byCalls(Grounds.loaded(text), seed, m), x.simulate(seed, m));
            due.is("the year stays", 4, x.about(0));
            due.is("simulate of twelve who wait", byCalls(Grounds.waited(12), seed, m), Grounds.waited(12).simulate(seed, m));
        }
    }

    private static long byCalls(PlotLeases x, long seed, int m) {
        long value = seed;
        for (int i = 0; i < m; i++) {
            value = value * 6364136223846793005L + 1442695040888963407L;
            int r = (int) (value >>> 33);
            try {
                turn(x, r, r / 8 % 24, r / 256 % 10);
            } catch (IllegalStateException e) {
                // it is left out
            }
        }
        return 100 * x.about(6) + x.about(7);
    }

    private static void turn(PlotLeases x, int r, int p, int f) {
        int kind = r % 8;
        if (kind < 2) {
            x.ask(f);
        } else if (kind < 4) {
            x.bury(p);
        } else if (kind == 4) {
            x.clear(p);
        } else if (kind == 5) {
            x.claim(p, f);
        } else if (kind == 6) {
            x.settle(p, r / 256 % 2 == 0);
        } else {
            x.run(1 + r / 8 % 30);
        }
    }
}
